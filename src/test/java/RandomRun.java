import java.util.ArrayList;
import java.util.List;

/** One run of changes, right and wrong ones, with undo, save and restore among them. */
final class RandomRun {
    private final String name;
    private final Chance chance;
    private final ParityGame game = new ParityGame();
    private Model model = Model.first();
    private final List<Model> undone = new ArrayList<>();
    private final Model[] saved = new Model[2];
    private boolean refused;

    RandomRun(int number, Chance chance) {
        this.name = "run " + number;
        this.chance = chance;
    }

    void make() {
        List<String> calls = new ArrayList<>();
        for (int i = 0; i < 150 && Due.wrong() < 20; i++) {
            int what = chance.below(20);
            int a = chance.below(23) - 1;
            int b = chance.below(23) - 1;
            if (what == 4 || what == 10) {
                a = chance.below(model.moves.size() + 1);
            }
            if (what == 8 && chance.below(3) > 0 && !model.from(model.token).isEmpty()) {
                a = model.from(model.token).get(0);
            }
            calls.add(what + "(" + a + "," + b + ")");
            int one = a;
            int two = b;
            Object due = dueOf(what, a, b);
            String all = name + " " + calls;
            Due.is(all, due, () -> answer(what, one, two));
            Due.is(all + " state", stateOf(model), () -> Due.state(game));
            ask(all);
            if (i % 10 == 0) {
                Due.is(all + " written", model.written(), () -> Due.written(game));
            }
        }
    }

    /** A few of the other calls in any order, so that each comes right behind a change and behind each other one. */
    private void ask(String all) {
        int quantity = chance.below(4);
        for (int i = 0; i < quantity; i++) {
            int what = chance.below(22);
            int player = chance.below(2);
            int a = chance.below(model.places());
            int b = chance.below(model.places());
            int call = chance.below(10);
            int set = chance.below(1 << model.places());
            Object due = told(what, player, a, b, call, set);
            Due.is(all + " asked " + what + " " + player + " " + a + " " + b + " " + call + " " + set, due,
                    () -> asked(what, player, a, b, call, set));
        }
    }

    private Object asked(int what, int player, int a, int b, int call, int set) {
        switch (what) {
            case 0: return game.won(player);
            case 1: return game.wonShare(player);
            case 2: return game.meanCall(player);
            case 3: return game.plan(a);
            case 4: return game.follow(a, b);
            case 5: return game.play(a, call % 3);
            case 6: return game.pull(player, set);
            case 7: return game.pullIn(a, player, set);
            case 8: return game.stay(player, set);
            case 9: return game.comeBack(player, set);
            case 10: return game.isTrap(player, set);
            case 11: return game.canHear(player, call);
            case 12: return game.wonIfCall(a, call);
            case 13: return game.wonIfOther(a);
            case 14: return game.wonWith(a, b);
            case 15: return game.leastCall(player, a, b);
            case 16: return game.neededMoves();
            case 17: return game.keyPlace();
            case 18: return game.place(a, 4);
            case 19: return game.size(3);
            case 20: return game.size(4);
            default: return model.moves.isEmpty() ? 0 : game.wonWithout(set % model.moves.size());
        }
    }

    private Object told(int what, int player, int a, int b, int call, int set) {
        switch (what) {
            case 0: return model.won(player);
            case 1: return (float) Integer.bitCount(model.won(player)) / (float) model.places();
            case 2: return model.meanCall(player);
            case 3: return model.plan()[a];
            case 4: return model.follow(a, b);
            case 5: return model.play(a, call % 3);
            case 6: return model.pull(player, set);
            case 7: return model.pullIn(a, player, set);
            case 8: return model.stay(player, set);
            case 9: return model.comeBack(player, set);
            case 10: return model.isTrap(player, set);
            case 11: return model.comeBack(player, model.calling(call));
            case 12: return model.withCall(a, call).won(0);
            case 13: return model.withOther(a).won(0);
            case 14: return model.with(a, b).won(0);
            case 15: return model.leastCall(player, a, b);
            case 16: return model.neededMoves();
            case 17: return model.keyPlace();
            case 18: return model.winner(a);
            case 19: return model.deadEnds();
            case 20: return model.differentCalls();
            default: return model.moves.isEmpty() ? 0 : model.without(set % model.moves.size()).won(0);
        }
    }

    private Object answer(int what, int a, int b) {
        switch (what) {
            case 0: case 11: case 12: return game.addPlace(a & 1, b / 2 - 1);
            case 1: return game.removePlace(a);
            case 2: return game.setOwner(a, b / 2 - 1);
            case 3: return game.setCall(a, b / 2);
            case 4: return game.removeMove(a);
            case 5: case 13: case 14: case 15: return game.addMove(a, b);
            case 6: return game.exchange();
            case 7: return game.lay(a);
            case 8: return game.go(a);
            case 9: return game.run(b * 5);
            case 10: return game.preferMove(a);
            case 16: return game.restore(a / 4);
            case 17: return game.save(a / 4);
            default: return game.undo();
        }
    }

    /** What is due, with the model brought to what it is then. */
    private Object dueOf(int what, int a, int b) {
        boolean isA = a >= 0 && a < model.places();
        boolean isMove = a >= 0 && a < model.moves.size();
        Model before = model.twin();
        refused = false;
        Object due;
        switch (what) {
            case 0: case 11: case 12: due = addPlace(a & 1, b / 2 - 1); break;
            case 1: due = !isA ? missing() : model.places() == 1 ? full() : (Object) model.removePlace(a); break;
            case 2: due = !isA ? missing() : b / 2 - 1 < 0 || b / 2 - 1 > 1 ? wrong()
                    : (Object) model.owners.set(a, b / 2 - 1); break;
            case 3: due = !isA ? missing() : b / 2 > 9 ? wrong() : (Object) model.calls.set(a, b / 2); break;
            case 4: due = !isMove ? missing() : removeMove(a); break;
            case 5: case 13: case 14: case 15: due = addMove(a, b); break;
            case 6: due = model.calls.contains(9) ? full() : (Object) model.exchange(); break;
            case 7: due = !isA ? missing() : lay(a); break;
            case 8: due = !isMove ? missing() : model.moves.get(a)[0] != model.token ? full() : go(a); break;
            case 9: due = b * 5 < 1 || b * 5 > 100 ? wrong() : (Object) model.run(b * 5); break;
            case 10: due = !isMove ? missing() : prefer(a); break;
            case 16: due = a / 4 > 1 ? wrong() : saved[a / 4] == null ? full() : restore(a / 4); break;
            case 17: return save(a / 4);
            default: return undo();
        }
        if (!refused) {
            undone.add(before);
            if (undone.size() > 10) {
                undone.remove(0);
            }
        }
        return due;
    }

    private Object missing() {
        refused = true;
        return "throws.NoSuchElementException";
    }

    private Object wrong() {
        refused = true;
        return "throws.IllegalArgumentException";
    }

    private Object full() {
        refused = true;
        return "throws.IllegalStateException";
    }

    private Object addPlace(int owner, int call) {
        if (call < 0 || call > 9) {
            return wrong();
        }
        if (model.places() == 20) {
            return full();
        }
        model.owners.add(owner);
        model.calls.add(call);
        return model.places() - 1;
    }

    private Object addMove(int from, int to) {
        if (from < 0 || to < 0 || from >= model.places() || to >= model.places()) {
            return missing();
        }
        if (model.between(from, to) >= 0) {
            return wrong();
        }
        if (model.moves.size() == 60) {
            return full();
        }
        model.moves.add(new int[] {from, to});
        return model.moves.size() - 1;
    }

    private Object removeMove(int move) {
        model.moves.remove(move);
        return model.moves.size();
    }

    private Object prefer(int move) {
        model.moves.add(0, model.moves.remove(move));
        return model.moves.get(0)[0];
    }

    private Object lay(int place) {
        model.lay(place);
        return model.winner(place);
    }

    private Object go(int move) {
        model.go(move);
        return model.calls.get(model.token);
    }

    private Object restore(int slot) {
        model = saved[slot].twin();
        return model.places();
    }

    private Object save(int slot) {
        if (slot > 1) {
            return "throws.IllegalArgumentException";
        }
        saved[slot] = model.twin();
        return (saved[0] == null ? 0 : 1) + (saved[1] == null ? 0 : 1);
    }

    private Object undo() {
        if (undone.isEmpty()) {
            return "throws.IllegalStateException";
        }
        model = undone.remove(undone.size() - 1);
        return undone.size();
    }

    private static String stateOf(Model model) {
        StringBuilder text = new StringBuilder();
        for (int place = 0; place < model.places(); place++) {
            text.append(model.owners.get(place) == 0 ? 'e' : 'o').append(model.calls.get(place)).append(' ');
        }
        for (int[] move : model.moves) {
            text.append(move[0]).append('>').append(move[1]).append(' ');
        }
        text.append('@').append(model.token).append('+').append(model.made);
        for (int heard : model.heard) {
            text.append(' ').append(heard);
        }
        return text.toString();
    }
}

/** Games of all sizes and long runs of changes, each answer against that of the model. */
public final class RandomTest {
    private RandomTest() {
    }

    public static void main(String[] args) {
        Chance chance = new Chance(7);
        for (int i = 0; i < 1200 && Due.wrong() < 20; i++) {
            Model model = any(chance);
            ParityGame game = built(model);
            String name = "game " + i + " " + Due.state(game) + ": ";
            askPlaces(name, model, game);
            askSets(name, model, game, chance);
            askWhatWouldBe(name, model, game, chance);
        }
        for (int i = 0; i < 400 && Due.wrong() < 20; i++) {
            new RandomRun(i, chance).make();
        }
        Due.end("RandomTest");
    }

    static Model any(Chance chance) {
        Model model = new Model();
        int places = 1 + chance.below(20);
        int greatest = 1 + chance.below(10);
        for (int place = 0; place < places; place++) {
            model.owners.add(chance.below(2));
            model.calls.add(chance.below(greatest));
        }
        int moves = chance.below(1 + Math.min(60, places * places));
        if (chance.below(2) == 0) {
            moves = Math.min(60, places * 2);
        }
        for (int i = 0; i < moves; i++) {
            int from = chance.below(places);
            int to = chance.below(places);
            if (model.between(from, to) < 0) {
                model.moves.add(new int[] {from, to});
            }
        }
        model.lay(0);
        return model;
    }

    /** A workbench with the game of the model, without a description. */
    static ParityGame built(Model model) {
        ParityGame game = new ParityGame();
        for (int i = 0; i < 3; i++) {
            game.removePlace(0);
        }
        while (game.size(1) > 0) {
            game.removeMove(0);
        }
        game.setOwner(0, model.owners.get(0));
        game.setCall(0, model.calls.get(0));
        for (int place = 1; place < model.places(); place++) {
            game.addPlace(model.owners.get(place), model.calls.get(place));
        }
        for (int[] move : model.moves) {
            game.addMove(move[0], move[1]);
        }
        game.lay(0);
        return game;
    }

    static void askPlaces(String name, Model model, ParityGame game) {
        int[] sizes = {model.places(), model.moves.size(), (int) model.owners.stream().filter(o -> o == 0).count(),
            model.deadEnds(), model.differentCalls(), java.util.Collections.max(model.calls), model.token, model.made};
        for (int what = 0; what < 8; what++) {
            int one = what;
            Due.is(name + "size " + what, sizes[what], () -> game.size(one));
        }
        for (int player = 0; player < 2; player++) {
            int one = player;
            float share = (float) Integer.bitCount(model.won(player)) / (float) model.places();
            Due.is(name + "won " + player, model.won(player), () -> game.won(one));
            Due.is(name + "wonShare " + player, share, () -> game.wonShare(one));
            Due.is(name + "wonBits " + player, Float.floatToIntBits(share), () -> game.wonBits(one));
            Due.is(name + "meanCall " + player, model.meanCall(player), () -> game.meanCall(one));
        }
        int[] plan = model.plan();
        for (int place = 0; place < model.places(); place++) {
            int one = place;
            int into = (int) model.moves.stream().filter(m -> m[1] == one).count();
            int[] due = {model.owners.get(place), model.calls.get(place), model.from(place).size(), into,
                model.winner(place)};
            for (int what = 0; what < 5; what++) {
                int asked = what;
                Due.is(name + "place " + place + " " + what, due[what], () -> game.place(one, asked));
            }
            Due.is(name + "plan " + place, plan[place], () -> game.plan(one));
        }
        Due.is(name + "writePlaces", model.written(), () -> Due.written(game));
    }

    static void askSets(String name, Model model, ParityGame game, Chance chance) {
        for (int i = 0; i < 6; i++) {
            int set = chance.below(1 << model.places());
            if (i > 2) {
                set &= chance.below(1 << model.places());
            }
            askSet(name, model, game, set);
            askSet(name, model, game, model.stay(i % 2, set));
        }
        for (int call = 0; call < 10; call++) {
            int one = call;
            Due.is(name + "canHear 0 " + call, model.comeBack(0, model.calling(call)), () -> game.canHear(0, one));
            Due.is(name + "canHear 1 " + call, model.comeBack(1, model.calling(call)), () -> game.canHear(1, one));
        }
    }

    private static void askSet(String name, Model model, ParityGame game, int set) {
        for (int player = 0; player < 2; player++) {
            int one = player;
            String what = name + player + " " + set;
            Due.is(what + " pull", model.pull(player, set), () -> game.pull(one, set));
            Due.is(what + " stay", model.stay(player, set), () -> game.stay(one, set));
            Due.is(what + " comeBack", model.comeBack(player, set), () -> game.comeBack(one, set));
            Due.is(what + " isTrap", model.isTrap(player, set), () -> game.isTrap(one, set));
            for (int place = 0; place < model.places(); place++) {
                int asked = place;
                Due.is(what + " pullIn " + place, model.pullIn(place, player, set),
                        () -> game.pullIn(asked, one, set));
            }
        }
    }

    static void askWhatWouldBe(String name, Model model, ParityGame game, Chance chance) {
        String before = Due.state(game);
        for (int i = 0; i < 4; i++) {
            int place = chance.below(model.places());
            int other = chance.below(model.places());
            int call = chance.below(10);
            int player = chance.below(2);
            int moves = chance.below(1001);
            int what = chance.below(3);
            Due.is(name + "wonIfCall " + place + " " + call, model.withCall(place, call).won(0),
                    () -> game.wonIfCall(place, call));
            Due.is(name + "wonIfOther " + place, model.withOther(place).won(0), () -> game.wonIfOther(place));
            Due.is(name + "wonWith " + place + " " + other, model.with(place, other).won(0),
                    () -> game.wonWith(place, other));
            Due.is(name + "leastCall " + player + " " + place + " " + other, model.leastCall(player, place, other),
                    () -> game.leastCall(player, place, other));
            Due.is(name + "follow " + place + " " + moves, model.follow(place, moves),
                    () -> game.follow(place, moves));
            Due.is(name + "play " + place + " " + what, model.play(place, what), () -> game.play(place, what));
        }
        for (int i = 0; i < 3 && !model.moves.isEmpty(); i++) {
            int move = chance.below(model.moves.size());
            Due.is(name + "wonWithout " + move, model.without(move).won(0), () -> game.wonWithout(move));
        }
        Due.is(name + "neededMoves", model.neededMoves(), () -> game.neededMoves());
        Due.is(name + "keyPlace", model.keyPlace(), () -> game.keyPlace());
        Due.is(name + "nothing changes", before, () -> Due.state(game));
    }
}

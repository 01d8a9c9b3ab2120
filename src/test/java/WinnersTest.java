/** Small games, of which every pair of plans is tried: who wins according to the words of the document alone. */
public final class WinnersTest {
    private WinnersTest() {
    }

    public static void main(String[] args) {
        Chance chance = new Chance(11);
        for (int i = 0; i < 3000; i++) {
            Model model = small(chance);
            ParityGame game = RandomTest.built(model);
            int due = wonByTrying(model);
            int won = model.won(0);
            Due.is("the model, game " + i, due, () -> won);
            Due.is("won(0), game " + i + " " + Due.state(game), due, () -> game.won(0));
            Due.is("won(1), game " + i + " " + Due.state(game), model.all() & ~due, () -> game.won(1));
            planWins(i, model, game);
        }
        Due.end("WinnersTest");
    }

    private static Model small(Chance chance) {
        Model model = new Model();
        int places = 1 + chance.below(5);
        int greatest = 1 + chance.below(10);
        for (int place = 0; place < places; place++) {
            model.owners.add(chance.below(2));
            model.calls.add(chance.below(greatest));
        }
        int moves = chance.below(3 * places);
        for (int i = 0; i < moves; i++) {
            int from = chance.below(places);
            int to = chance.below(places);
            if (model.between(from, to) < 0) {
                model.moves.add(new int[] {from, to});
            }
        }
        model.lay(0);
        return model;
    }

    /** The places from which a plan of player 0 wins against each plan of player 1. */
    private static int wonByTrying(Model model) {
        int won = 0;
        int plans0 = plans(model, 0);
        int plans1 = plans(model, 1);
        for (int a = 0; a < plans0; a++) {
            int all = model.all();
            for (int b = 0; b < plans1; b++) {
                for (int place = 0; place < model.places(); place++) {
                    if (winnerOfPlay(model, place, new int[] {a, b}) == 1) {
                        all &= ~(1 << place);
                    }
                }
            }
            won |= all;
        }
        return won;
    }

    private static int plans(Model model, int player) {
        int quantity = 1;
        for (int place = 0; place < model.places(); place++) {
            if (model.owners.get(place) == player) {
                quantity *= Math.max(1, model.from(place).size());
            }
        }
        return quantity;
    }

    private static int winnerOfPlay(Model model, int start, int[] plans) {
        int at = start;
        for (int i = 0; i < model.places(); i++) {
            if (model.ends(at).isEmpty()) {
                return 1 - model.owners.get(at);
            }
            at = next(model, at, plans);
        }
        int greatest = 0;
        for (int i = 0; i < model.places(); i++) {
            if (model.ends(at).isEmpty()) {
                return 1 - model.owners.get(at);
            }
            greatest = Math.max(greatest, model.calls.get(at));
            at = next(model, at, plans);
        }
        return greatest % 2;
    }

    private static int next(Model model, int at, int[] plans) {
        int player = model.owners.get(at);
        int rest = plans[player];
        for (int place = 0; place < at; place++) {
            if (model.owners.get(place) == player) {
                rest /= Math.max(1, model.from(place).size());
            }
        }
        return model.ends(at).get(rest % model.from(at).size());
    }

    /** A player who follows the plan wins from each place that he wins from. */
    private static void planWins(int i, Model model, ParityGame game) {
        for (int player = 0; player < 2; player++) {
            Model bound = model.twin();
            int one = player;
            bound.moves.removeIf(m -> model.owners.get(m[0]) == one
                    && game.plan(m[0]) != model.between(m[0], m[1]));
            int won = player == 0 ? wonByTrying(bound) : bound.all() & ~wonByTrying(bound);
            int due = game.won(player);
            Due.is("the plan wins, game " + i + ", player " + player, due, () -> won & due);
        }
    }
}

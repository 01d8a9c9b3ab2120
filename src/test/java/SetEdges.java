/** Sentences of promises 18 to 23: pulling, staying, coming back. */
abstract class SetEdges extends Edge {
    private static final String OUT_OF_RANGE =
            "Throws IllegalArgumentException if player is out of range, or set is negative or has a place that there is not";
    private static final String PLAYER_SET = "- player: 0 or 1 - set: a set of places ";

    static void make() {
        pull();
        pullIn();
        stay();
        comeBack();
        isTrap();
        canHear();
    }

    /** Every set that is negative or has a place that there is not, beside sets that are neither. */
    private static void sets(Asked call) {
        illegal(NO_SET, call);
        throwing("IllegalArgumentException", () -> Due.loaded("game; odd 5"), new int[] {2, 3, -1, Integer.MAX_VALUE}, call);
        throwing("IllegalArgumentException", () -> Due.loaded(FULL), new int[] {1 << 20, ALL_TWENTY + 2, -1, 1 << 30}, call);
        is("all places of one", true, () -> call.answer(Due.loaded("game; odd 5"), 1) != null);
        is("all places of twenty", true, () -> call.answer(Due.loaded(FULL), ALL_TWENTY) != null);
        is("the last place of twenty", true, () -> call.answer(Due.loaded(FULL), 1 << 19) != null);
        is("no place", true, () -> call.answer(Due.loaded(FULL), 0) != null);
    }

    private static void pull() {
        edge(18, PLAYER_SET + "Returns the set of places from which the player can pull to the set.", () -> {
            ParityGame game = new ParityGame();
            is("player 0", 15, () -> game.pull(0, 4));
            is("player 1", 2, () -> game.pull(1, 2));
            is("the empty set", 0, () -> game.pull(0, 0));
            is("the empty set", 0, () -> game.pull(1, 0));
            is("all", 15, () -> game.pull(0, 15));
            is("all", 15, () -> game.pull(1, 15));
            ParityGame longest = Due.loaded(line("even", 20, 0));
            is("to the last one", ALL_TWENTY, () -> longest.pull(1, 1 << 19));
            is("to the first one", 1, () -> longest.pull(0, 1));
            is("one place", 1, () -> Due.loaded("game; odd 5").pull(0, 1));
            is("one place, to nothing", 0, () -> Due.loaded("game; odd 5; move 0 0").pull(1, 0));
        });
        edge(18, OUT_OF_RANGE, () -> {
            illegal(NO_PLAYER, (game, player) -> game.pull(player, 1));
            sets((game, set) -> game.pull(0, set));
        });
    }

    private static void pullIn() {
        edge(19, "- place: number of a place", () -> {
            is("the first one", 0, () -> Due.loaded(FULL).pullIn(0, 0, 1));
            is("the last one", 0, () -> Due.loaded(FULL).pullIn(19, 1, 1 << 19));
        });
        edge(19, PLAYER_SET + "Returns the least number of moves after which the player can have pulled the token to the set at "
                + "the latest, 0 if the place belongs to it; NONE if he cannot pull it there.", () -> {
            ParityGame choice = Due.loaded("game; odd 0 0 0; move 0 1 2; move 1 2; move 2 2");
            is("the least number", 1, () -> choice.pullIn(0, 1, 4));
            is("at the latest", 2, () -> choice.pullIn(0, 0, 4));
            is("0", 0, () -> choice.pullIn(2, 0, 4));
            is("0, of many", 0, () -> choice.pullIn(1, 1, 7));
            is("none", -1, () -> choice.pullIn(2, 1, 3));
            is("none to the empty set", -1, () -> choice.pullIn(0, 0, 0));
            is("none, if the play ends", -1, () -> Due.loaded(ENDS).pullIn(5, 1, 31));
            is("none, if the other one does not want", -1, () -> Due.loaded(ENDS).pullIn(0, 1, 4));
            ParityGame longest = Due.loaded(line("even", 20, 0));
            is("nineteen", 19, () -> longest.pullIn(0, 0, 1 << 19));
            is("nineteen of the other one", 19, () -> longest.pullIn(0, 1, 1 << 19));
            is("one", 1, () -> longest.pullIn(18, 1, 1 << 19));
            is("not back", -1, () -> longest.pullIn(19, 1, 1 << 18));
        });
        edge(19, "Throws NoSuchElementException if there is no such place",
                () -> missing(NO_PLACE, (game, place) -> game.pullIn(place, 0, 1)));
        edge(19, OUT_OF_RANGE, () -> {
            illegal(NO_PLAYER, (game, player) -> game.pullIn(0, player, 1));
            sets((game, set) -> game.pullIn(0, 0, set));
        });
    }

    private static void stay() {
        edge(20, PLAYER_SET + "Returns the set of places of the set from which the player can stay in it.", () -> {
            ParityGame game = new ParityGame();
            is("all of it", 3, () -> game.stay(0, 3));
            is("none of it", 0, () -> game.stay(1, 3));
            is("a part of it", 12, () -> game.stay(1, 13));
            is("the empty set", 0, () -> game.stay(0, 0));
            is("all places", 15, () -> game.stay(1, 15));
            is("one place where plays end", 1, () -> Due.loaded("game; odd 5").stay(0, 1));
            is("one place that goes on", 0, () -> Due.loaded("game; odd 5 5; move 0 1").stay(1, 1));
            is("twenty", ALL_TWENTY, () -> Due.loaded(ring("odd", 20, 0)).stay(0, ALL_TWENTY));
            is("nineteen of twenty", 0, () -> Due.loaded(ring("odd", 20, 0)).stay(1, ALL_TWENTY - 1));
        });
        edge(20, OUT_OF_RANGE, () -> {
            illegal(NO_PLAYER, (game, player) -> game.stay(player, 1));
            sets((game, set) -> game.stay(1, set));
        });
    }

    private static void comeBack() {
        edge(21, PLAYER_SET + "Returns the set of places from which the player can come back to the set.", () -> {
            ParityGame game = new ParityGame();
            is("from outside too", 3, () -> game.comeBack(0, 1));
            is("player 1", 12, () -> game.comeBack(1, 8));
            is("the empty set", 0, () -> game.comeBack(0, 0));
            is("the empty set", 0, () -> game.comeBack(1, 0));
            is("all places", 15, () -> game.comeBack(0, 15));
            is("one place that ends", 0, () -> Due.loaded("game; odd 5").comeBack(1, 1));
            is("one place that goes on", 1, () -> Due.loaded("game; odd 5; move 0 0").comeBack(0, 1));
            is("round twenty", ALL_TWENTY, () -> Due.loaded(ring("even", 20, 1)).comeBack(1, 1 << 19));
            // Player 1 may wait for ever at place 0 or 1.
            String waiting = "game; odd 0 0 0; move 0 1 0; move 1 2 1; move 2 2";
            is("the other one may wait", 4, () -> Due.loaded(waiting).comeBack(0, 4));
            is("he need not wait", 7, () -> Due.loaded(waiting).comeBack(1, 4));
            is("each place comes only once", 0, () -> Due.loaded(line("even", 20, 1)).comeBack(0, ALL_TWENTY));
        });
        edge(21, OUT_OF_RANGE, () -> {
            illegal(NO_PLAYER, (game, player) -> game.comeBack(player, 1));
            sets((game, set) -> game.comeBack(0, set));
        });
    }

    private static void isTrap() {
        edge(22, PLAYER_SET + "Returns whether the set is a trap for the player.", () -> {
            ParityGame game = new ParityGame();
            is("for player 0", true, () -> game.isTrap(0, 12));
            is("not for player 1", false, () -> game.isTrap(1, 12));
            is("for player 1", true, () -> game.isTrap(1, 3));
            is("not for player 0", false, () -> game.isTrap(0, 3));
            is("the empty set", true, () -> game.isTrap(0, 0));
            is("all places", true, () -> game.isTrap(1, 15));
            is("one place that ends", true, () -> Due.loaded("game; odd 5").isTrap(1, 1));
            is("one place that ends", false, () -> Due.loaded("game; odd 5").isTrap(0, 1));
            is("twenty", true, () -> Due.loaded(ring("odd", 20, 0)).isTrap(0, ALL_TWENTY));
            is("nineteen of twenty", false, () -> Due.loaded(ring("odd", 20, 0)).isTrap(0, ALL_TWENTY / 2));
            is("nineteen of twenty", false, () -> Due.loaded(ring("odd", 20, 0)).isTrap(1, ALL_TWENTY / 2));
        });
        edge(22, OUT_OF_RANGE, () -> {
            illegal(NO_PLAYER, (game, player) -> game.isTrap(player, 1));
            illegal(NO_PLAYER, (game, player) -> game.isTrap(player, 0));
            sets((game, set) -> game.isTrap(1, set));
        });
    }

    private static void canHear() {
        edge(23, "- player: 0 or 1 - call: 0 to 9 Returns the set of places from which the player can come back to the set of "
                + "places with this call.", () -> {
            ParityGame game = new ParityGame();
            is("call 0", 3, () -> game.canHear(0, 0));
            is("call 3", 12, () -> game.canHear(1, 3));
            is("no place calls it", 0, () -> game.canHear(0, 9));
            is("no place calls it", 0, () -> game.canHear(1, 9));
            is("call 9", 1, () -> Due.loaded("game; even 9; move 0 0").canHear(1, 9));
            is("call 0", 1, () -> Due.loaded("game; even 0; move 0 0").canHear(1, 0));
            is("of several places", 3, () -> Due.loaded("game; even 4 4; move 0 0 1; move 1 1").canHear(1, 4));
            is("called once", 0, () -> Due.loaded("game; even 7 4; move 0 1; move 1 1").canHear(0, 7));
            is("where plays end", 0, () -> Due.loaded("game; odd 7; even 7").canHear(0, 7));
            ParityGame changed = Due.loaded("game; even 0 0; move 0 0; move 1 1");
            is("call 0 of both", 3, () -> changed.canHear(0, 0));
            changed.setCall(1, 9);
            is("call 0 of one alone", 1, () -> changed.canHear(0, 0));
        });
        edge(23, "Throws IllegalArgumentException if player or call is out of range", () -> {
            illegal(NO_PLAYER, (game, player) -> game.canHear(player, 0));
            illegal(NO_CALL, (game, call) -> game.canHear(0, call));
            illegal(NO_CALL, (game, call) -> game.canHear(call, call));
        });
    }
}

/** Sentences of promises 24 to 30: what would be; nothing changes. */
abstract class WhatIfEdges extends Edge {
    static void make() {
        wonIf();
        wonWithout();
        wonWith();
        leastCall();
        neededMoves();
        keyPlace();
    }

    /** The call answers this, and all stays as it was. */
    private static void leaves(String what, Made made, Object due, Asked call) {
        ParityGame game = made.game();
        String untouched = whole(made.game());
        is(what, due, () -> call.answer(game, 0));
        is(what + ": nothing changes", untouched, () -> whole(game));
        // Again behind other calls of the section, with the winners known and the plan not yet.
        ParityGame known = made.game();
        known.won(0);
        known.leastCall(0, known.size(0) - 1, 0);
        known.wonIfOther(0);
        is(what + " behind others", due, () -> call.answer(known, 0));
        is(what + " behind others: nothing changes", untouched, () -> whole(known));
    }

    private static void leaves(String text, Object due, Asked call) {
        leaves(text, () -> Due.loaded(text), due, call);
    }

    private static void wonIf() {
        edge(24, "- place: number of a place - call: 0 to 9 Returns won(0), if the place had this call.", () -> {
            for (int call = 0; call < 10; call++) {
                int other = call;
                leaves("game; even 5; move 0 0", (call + 1) % 2, (game, v) -> game.wonIfCall(0, other));
            }
            leaves("its own call", Edge::rich, 7, (game, v) -> game.wonIfCall(4, 2));
            leaves(ring("even", 20, 2), 0, (game, v) -> game.wonIfCall(19, 9));
            leaves(ring("even", 20, 2), ALL_TWENTY, (game, v) -> game.wonIfCall(0, 0));
            leaves("game; odd 5", 1, (game, v) -> game.wonIfCall(0, 9));
            leaves("game; even 0 5; move 0 1; move 1 0", 3, (game, v) -> game.wonIfCall(1, 4));
            leaves("game; even 2 5; move 0 0; move 1 1", 3, (game, v) -> game.wonIfCall(1, 2));
        });
        edge(24, "Throws NoSuchElementException if there is no such place",
                () -> missing(NO_PLACE, (game, place) -> game.wonIfCall(place, 0)));
        edge(24, "Throws IllegalArgumentException if call is out of range",
                () -> illegal(NO_CALL, (game, call) -> game.wonIfCall(0, call)));
        edge(25, "- place: number of a place Returns won(0), if the place had the other owner.", () -> {
            leaves("new", ParityGame::new, 15, (game, v) -> game.wonIfOther(2));
            leaves("rich", Edge::rich, 31, (game, v) -> game.wonIfOther(3));
            leaves("game; odd 5", 0, (game, v) -> game.wonIfOther(0));
            leaves("game; even 1 2; move 0 0 1; move 1 1", 2, (game, v) -> game.wonIfOther(0));
            leaves("game; odd 2 1; move 0 0 1; move 1 1", 1, (game, v) -> game.wonIfOther(0));
            leaves("game; even 5", 1, (game, v) -> game.wonIfOther(0));
            leaves(line("even", 20, 0), ALL_TWENTY, (game, v) -> game.wonIfOther(19));
            leaves(line("even", 20, 0), 0, (game, v) -> game.wonIfOther(0));
        });
        edge(25, "Throws NoSuchElementException if there is no such place", () -> missing(NO_PLACE, ParityGame::wonIfOther));
    }

    private static void wonWithout() {
        edge(26, "- move: number of a move Returns won(0), if there was no such move.", () -> {
            leaves("the only one", () -> Due.loaded("game; even 2; move 0 0"), 0, (game, v) -> game.wonWithout(0));
            leaves("the only one", () -> Due.loaded("game; odd 1; move 0 0"), 1, (game, v) -> game.wonWithout(0));
            leaves("the first one", ParityGame::new, 0, (game, v) -> game.wonWithout(0));
            leaves("the last one", ParityGame::new, 15, (game, v) -> game.wonWithout(6));
            leaves("the last of sixty", () -> Due.loaded(FULL), 1047559, (game, v) -> game.wonWithout(59));
            leaves("the last of twenty", () -> Due.loaded(ring("even", 20, 2)), 0, (game, v) -> game.wonWithout(19));
        });
        edge(26, "Throws NoSuchElementException if there is no such move", () -> {
            missing(NO_MOVE, ParityGame::wonWithout);
            throwing("NoSuchElementException", () -> Due.loaded("game; odd 5"), new int[] {-1, 0}, ParityGame::wonWithout);
            throwing("NoSuchElementException", () -> Due.loaded(FULL), new int[] {60}, ParityGame::wonWithout);
        });
    }

    private static void wonWith() {
        edge(27, "- from: number of a place - to: number of a place Returns won(0), if there was a move from the one to the "
                + "other (as it is, if there is one).", () -> {
            leaves("to itself", ParityGame::new, 3, (game, v) -> game.wonWith(0, 0));
            leaves("there is one", ParityGame::new, 0, (game, v) -> game.wonWith(0, 1));
            leaves("the first one of all", () -> Due.loaded("game; even 2"), 1, (game, v) -> game.wonWith(0, 0));
            leaves("a 61st move", () -> Due.loaded(FULL), 523271, (game, v) -> game.wonWith(19, 19));
            leaves("one of sixty", () -> Due.loaded(FULL), 1047559, (game, v) -> game.wonWith(2, 19));
            leaves("from first to last", () -> Due.loaded(TWENTY), 1047553, (game, v) -> game.wonWith(0, 19));
        });
        edge(27, "Throws NoSuchElementException if there is no such place", () -> {
            missing(NO_PLACE, (game, place) -> game.wonWith(place, 0));
            missing(NO_PLACE, (game, place) -> game.wonWith(0, place));
            missing(NO_PLACE, (game, place) -> game.wonWith(place, place));
        });
    }

    private static void leastCall() {
        String two = "game; even 4 0; move 0 1; move 1 0";
        edge(28, "- player: 0 or 1 - place: number of a place - start: number of a place Returns the least call, 0 to 9, of the "
                + "place \"place\" with which the player would win from the place \"start\"; NONE if there is none.", () -> {
            leaves(two, 5, (game, v) -> game.leastCall(1, 1, 0));
            leaves(two, 0, (game, v) -> game.leastCall(0, 1, 0));
            leaves("game; even 8 0; move 0 1; move 1 0", 9, (game, v) -> game.leastCall(1, 1, 0));
            leaves("game; even 9 0; move 0 1; move 1 0", -1, (game, v) -> game.leastCall(0, 1, 0));
            leaves("game; even 9 0; move 0 1; move 1 0", 0, (game, v) -> game.leastCall(1, 1, 1));
            leaves("game; odd 9; move 0 0", 0, (game, v) -> game.leastCall(0, 0, 0));
            leaves("game; odd 0; move 0 0", 1, (game, v) -> game.leastCall(1, 0, 0));
            leaves("game; odd 5", -1, (game, v) -> game.leastCall(1, 0, 0));
            leaves("game; odd 5", 0, (game, v) -> game.leastCall(0, 0, 0));
            leaves("another place", () -> Due.loaded("game; even 1 2; move 0 0; move 1 1"), -1,
                    (game, v) -> game.leastCall(0, 1, 0));
            leaves("of twenty", () -> Due.loaded(ring("odd", 20, 6)), 7, (game, v) -> game.leastCall(1, 19, 0));
        });
        edge(28, "Throws NoSuchElementException if there is no such place", () -> {
            missing(NO_PLACE, (game, place) -> game.leastCall(0, place, 0));
            missing(NO_PLACE, (game, place) -> game.leastCall(0, 0, place));
        });
        edge(28, "Throws IllegalArgumentException if player is out of range",
                () -> illegal(NO_PLAYER, (game, player) -> game.leastCall(player, 0, 0)));
    }

    private static void neededMoves() {
        edge(29, "Returns how many moves there are, without each of which, by itself, won(0) would be another set.", () -> {
            leaves("new", ParityGame::new, 2, (game, v) -> game.neededMoves());
            leaves("game; odd 5", 0, (game, v) -> game.neededMoves());
            leaves("game; even 2; move 0 0", 1, (game, v) -> game.neededMoves());
            leaves("game; even 1; move 0 0", 0, (game, v) -> game.neededMoves());
            leaves("game; odd 1; move 0 0", 1, (game, v) -> game.neededMoves());
            leaves("either of two, neither by itself", () -> Due.loaded("game; even 2 2; move 0 0 1; move 1 1"), 1,
                    (game, v) -> game.neededMoves());
            leaves(ring("even", 20, 2), 20, (game, v) -> game.neededMoves());
            leaves(ring("even", 20, 1), 0, (game, v) -> game.neededMoves());
            leaves("sixty", () -> Due.loaded(FULL), 0, (game, v) -> game.neededMoves());
            leaves(ENDS, 4, (game, v) -> game.neededMoves());
            leaves("behind another call", () -> Due.loaded(ENDS), 4, (game, v) -> {
                game.won(0);
                game.wonIfOther(3);
                return game.neededMoves();
            });
        });
    }

    private static void keyPlace() {
        edge(30, "Returns the place whose owner, if it was the other player, would make the most places have another winner, of "
                + "several the first one; NONE if it would be none with each.", () -> {
            leaves("new", ParityGame::new, 2, (game, v) -> game.keyPlace());
            leaves("game; even 2; move 0 0", -1, (game, v) -> game.keyPlace());
            leaves(ring("odd", 20, 1), -1, (game, v) -> game.keyPlace());
            leaves("game; odd 5", 0, (game, v) -> game.keyPlace());
            leaves("the first of two", () -> Due.loaded("game; even 2; even 1 1; move 0 0"), 1, (game, v) -> game.keyPlace());
            leaves("the first of twenty", () -> Due.loaded(TWENTY), 0, (game, v) -> game.keyPlace());
            leaves("the last of twenty", () -> Due.loaded(line("even", 20, 0)), 19, (game, v) -> game.keyPlace());
            leaves("behind another call", () -> Due.loaded(ENDS), 2, (game, v) -> {
                game.won(0);
                game.wonIfOther(3);
                return game.keyPlace();
            });
            leaves("the most, not the first", () -> Due.loaded("game; even 1 1 1; move 1 2"), 2, (game, v) -> game.keyPlace());
        });
    }
}

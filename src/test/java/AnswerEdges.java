/** Sentences of promises 6 to 17: what there is, who wins, the plan. */
abstract class AnswerEdges extends Edge {
    static void make() {
        sizes();
        places();
        moves();
        won();
        shares();
        means();
        plan();
        follow();
        play();
    }

    private static void sizes() {
        edge(6, "- what: 0 places, 1 moves, 2 places of player 0, 3 places without moves from them, 4 different calls, "
                + "5 the greatest call, 6 the place of the token, 7 the moves that it has made Returns this number.", () -> {
            sizesAre("game; odd 0", "1 0 0 1 1 0 0 0");
            sizesAre("game; even 9", "1 0 1 1 1 9 0 0");
            sizesAre("game; even 4; move 0 0", "1 1 1 0 1 4 0 0");
            sizesAre(FULL, "20 60 10 17 10 9 0 0");
            sizesAre(ring("even", 20, 9) + ";token 19", "20 20 20 0 1 9 19 0");
            sizesAre(line("odd", 20, 0), "20 19 0 1 1 0 0 0");
            sizesAre("game; odd 0 0 1; even 0 1 1", "6 0 3 6 2 1 0 0");
            sizesAre(ENDS, "6 7 3 2 6 7 0 0");
            ParityGame game = new ParityGame();
            for (int run = 1; run <= 100; run++) {
                game.run(100);
            }
            is("many moves made", 10000, () -> game.size(7));
            is("where they end", 0, () -> game.size(6));
            game.setCall(3, 0);
            is("different calls behind a change", 3, () -> game.size(4));
            game.setCall(3, 3);
            game.addPlace(1, 9);
            game.removePlace(2);
            is("behind changes", "4 3 2 2 4 9 0 0", () -> sizesOf(game));
        });
        edge(6, "Throws IllegalArgumentException if what is out of range",
                () -> illegal(new int[] {-1, 8, 9, Integer.MIN_VALUE, Integer.MAX_VALUE}, ParityGame::size));
    }

    private static String sizesOf(ParityGame game) {
        StringBuilder text = new StringBuilder();
        for (int what = 0; what < 8; what++) {
            text.append(what == 0 ? "" : " ").append(game.size(what));
        }
        return text.toString();
    }

    private static void sizesAre(String text, String due) {
        is(text, due, () -> sizesOf(Due.loaded(text)));
    }

    private static void places() {
        edge(7, "- place: number of a place", () -> {
            ParityGame game = Due.loaded(FULL);
            is("the first one", 0, () -> game.place(0, 0));
            is("the last one", 1, () -> game.place(19, 0));
            is("the only one", 9, () -> Due.loaded("game; odd 9").place(0, 1));
        });
        edge(7, "- what: 0 owner, 1 call, 2 moves from it, 3 moves to it, 4 winner Returns this value.", () -> {
            placeIs(FULL, 0, "0 0 20 3 0");
            placeIs(FULL, 2, "0 2 20 3 0");
            placeIs(FULL, 3, "0 3 0 3 1");
            placeIs(FULL, 19, "1 9 0 3 0");
            placeIs("game; even 7", 0, "0 7 0 0 1");
            placeIs("game; odd 5; move 0 0", 0, "1 5 1 1 1");
            placeIs("game; odd 4; move 0 0", 0, "1 4 1 1 0");
            placeIs(ENDS, 4, "1 2 2 2 1");
            placeIs(ENDS, 5, "0 7 0 1 1");
            StringBuilder all = new StringBuilder(TWENTY);
            for (int from = 0; from < 20; from++) {
                all.append(";move ").append(from).append(" 0");
            }
            placeIs(all.toString(), 0, "0 0 1 20 0");
            placeIs(all.toString(), 19, "1 9 1 0 0");
        });
        edge(7, "Throws NoSuchElementException if there is no such place", () -> {
            missing(NO_PLACE, (game, place) -> game.place(place, 0));
            missing(NO_PLACE, (game, place) -> game.place(place, 4));
            throwing("NoSuchElementException", () -> Due.loaded("game; odd 5"), new int[] {-1, 1, 2, 19},
                    (game, place) -> game.place(place, 1));
            throwing("NoSuchElementException", () -> Due.loaded(FULL), new int[] {-1, 20, 21, 31, 32},
                    (game, place) -> game.place(place, 2));
        });
        edge(7, "Throws IllegalArgumentException if what is out of range", () -> {
            illegal(new int[] {-1, 5, 6, Integer.MIN_VALUE, Integer.MAX_VALUE}, (game, what) -> game.place(0, what));
            illegal(new int[] {-1, 5}, (game, what) -> game.place(5, what));
        });
    }

    private static void placeIs(String text, int place, String due) {
        ParityGame game = Due.loaded(text);
        StringBuilder told = new StringBuilder();
        for (int what = 0; what < 5; what++) {
            told.append(what == 0 ? "" : " ").append(game.place(place, what));
        }
        is(text + " place " + place, due, () -> told.toString());
    }

    private static void moves() {
        edge(8, "- move: number of a move", () -> {
            ParityGame game = Due.loaded(FULL);
            is("the first one", 0, () -> game.move(0, 0));
            is("the last one", 2, () -> game.move(59, 0));
            is("the only one", 0, () -> Due.loaded("game; odd 5; move 0 0").move(0, 0));
        });
        edge(8, "- end: 0 the place from which it leads, 1 that to which it leads Returns this place.", () -> {
            ParityGame game = Due.loaded(TWENTY + ";move 19 0;move 0 19;move 7 7");
            is("from the last place", 19, () -> game.move(0, 0));
            is("to the first place", 0, () -> game.move(0, 1));
            is("from the first place", 0, () -> game.move(1, 0));
            is("to the last place", 19, () -> game.move(1, 1));
            is("the same place", 14, () -> game.move(2, 0) + game.move(2, 1));
        });
        edge(8, "Throws NoSuchElementException if there is no such move", () -> {
            missing(NO_MOVE, (game, move) -> game.move(move, 0));
            missing(NO_MOVE, (game, move) -> game.move(move, 1));
            throwing("NoSuchElementException", () -> Due.loaded("game; odd 5"), new int[] {-1, 0, 1, 59},
                    (game, move) -> game.move(move, 0));
            throwing("NoSuchElementException", () -> Due.loaded(FULL), new int[] {-1, 60, 61},
                    (game, move) -> game.move(move, 1));
        });
        edge(8, "Throws IllegalArgumentException if end is out of range", () ->
                illegal(new int[] {-1, 2, 3, Integer.MIN_VALUE, Integer.MAX_VALUE}, (game, end) -> game.move(0, end)));
        edge(9, "- from: number of a place - to: number of a place", () -> {
            ParityGame game = Due.loaded(TWENTY + ";move 0 0;move 19 19;move 0 19;move 19 0");
            is("the first one", 0, () -> game.moveBetween(0, 0));
            is("the last one", 1, () -> game.moveBetween(19, 19));
            is("first to last", 2, () -> game.moveBetween(0, 19));
            is("last to first", 3, () -> game.moveBetween(19, 0));
        });
        edge(9, "Returns the move that leads from the one to the other; NONE if there is none.", () -> {
            ParityGame game = Due.loaded(FULL);
            is("move 0", 0, () -> game.moveBetween(0, 0));
            is("move 59", 59, () -> game.moveBetween(2, 19));
            is("none", -1, () -> game.moveBetween(19, 2));
            is("none to itself", -1, () -> game.moveBetween(3, 3));
            is("no moves", -1, () -> Due.loaded("game; odd 5").moveBetween(0, 0));
            game.removeMove(59);
            is("none any more", -1, () -> game.moveBetween(2, 19));
        });
        edge(9, "Throws NoSuchElementException if there is no such place", () -> {
            missing(NO_PLACE, (game, place) -> game.moveBetween(place, 0));
            missing(NO_PLACE, (game, place) -> game.moveBetween(5, place));
            missing(NO_PLACE, (game, place) -> game.moveBetween(place, place));
        });
        edge(10, "- call: 0 to 9", () -> {
            ParityGame game = Due.loaded("game; even 0 9; move 0 1; move 1 0 1");
            is("call 0", 1, () -> game.heard(0));
            is("call 9", 0, () -> game.heard(9));
        });
        edge(10, "Returns how often it was heard since the token was laid.", () -> {
            ParityGame game = Due.loaded("game; even 0 8; move 0 1; move 1 1 0");
            is("where it was laid", 1, () -> game.heard(0));
            is("not yet", 0, () -> game.heard(8));
            for (int i = 0; i < 20; i++) {
                game.run(100);
            }
            is("again and again at one place", 2000, () -> game.heard(8));
            game.lay(1);
            is("laid", 1, () -> game.heard(8));
            is("laid", 0, () -> game.heard(0));
            is("never", 0, () -> game.heard(9));
            ParityGame same = Due.loaded("game; even 3 3; move 0 1; move 1 0");
            same.run(3);
            is("one call of two places", 4, () -> same.heard(3));
        });
        edge(10, "Throws IllegalArgumentException if call is out of range", () -> illegal(NO_CALL, ParityGame::heard));
    }

    private static void won() {
        edge(11, "- player: 0 or 1 Returns the set of places from which the player wins.", () -> {
            is("none", 0, () -> new ParityGame().won(0));
            is("all", 15, () -> new ParityGame().won(1));
            is("some", 7, () -> Due.loaded(ENDS).won(0));
            is("the others", 56, () -> Due.loaded(ENDS).won(1));
            is("one place", 1, () -> Due.loaded("game; odd 9").won(0));
            is("no place", 0, () -> Due.loaded("game; odd 9").won(1));
            is("all of twenty", ALL_TWENTY, () -> Due.loaded(line("odd", 20, 9)).won(0));
            is("none of twenty", 0, () -> Due.loaded(line("odd", 20, 9)).won(1));
            is("of twenty with sixty moves", 1047559, () -> Due.loaded(FULL).won(0));
            is("of twenty with sixty moves", 1016, () -> Due.loaded(FULL).won(1));
        });
        edge(11, "Throws IllegalArgumentException if player is out of range", () -> illegal(NO_PLAYER, ParityGame::won));
    }

    private static void shares() {
        edge(12, "- player: 0 or 1 Returns the quantity of places from which the player wins as a float, divided by the "
                + "quantity of places as a float.", () -> {
            is("none", 0.0f, () -> new ParityGame().wonShare(0));
            is("all", 1.0f, () -> new ParityGame().wonShare(1));
            is("a half", 0.5f, () -> Due.loaded(ENDS).wonShare(0));
            is("a third", 1.0f / 3.0f, () -> Due.loaded("game; odd 0; even 0 0").wonShare(0));
            is("two thirds", 2.0f / 3.0f, () -> Due.loaded("game; odd 0; even 0 0").wonShare(1));
            is("one of twenty", 0.05f, () -> twentyOf(1).wonShare(0));
            is("nineteen of twenty", 0.95f, () -> twentyOf(1).wonShare(1));
            is("twenty of twenty", 1.0f, () -> twentyOf(20).wonShare(0));
            is("none of twenty", 0.0f, () -> twentyOf(20).wonShare(1));
        });
        edge(12, "Throws IllegalArgumentException if player is out of range", () -> illegal(NO_PLAYER, ParityGame::wonShare));
        edge(13, "- player: 0 or 1 Returns the bits of wonShare(player), as of Float.floatToIntBits().", () -> {
            is("0.0", 0, () -> new ParityGame().wonBits(0));
            is("1.0", 0x3f800000, () -> new ParityGame().wonBits(1));
            is("a half", 0x3f000000, () -> Due.loaded(ENDS).wonBits(0));
            for (int places = 1; places <= 20; places++) {
                ParityGame game = new ParityGame();
                Due.feed(game, "game; odd" + " 0".repeat(places));
                game.load(9 + 2 * places);
                for (int place = 0; place <= places; place++) {
                    int lost = place;
                    int most = places;
                    float share = (float) (most - lost) / (float) most;
                    is(lost + " of " + most, Float.floatToIntBits(share), () -> game.wonBits(0));
                    is("its share", share, () -> game.wonShare(0));
                    if (place < places) {
                        game.setOwner(place, 0);
                    }
                }
            }
        });
        edge(13, "Throws IllegalArgumentException if player is out of range", () -> illegal(NO_PLAYER, ParityGame::wonBits));
    }

    /** Twenty places without moves, so many of them such that player 0 wins from them. */
    private static ParityGame twentyOf(int won) {
        String text = "game; odd" + " 9".repeat(won) + (won < 20 ? "; even" + " 9".repeat(20 - won) : "");
        return Due.loaded(text);
    }

    private static void means() {
        edge(14, "- player: 0 or 1 Returns the sum of the calls of the places from which the player wins as a double, divided "
                + "by their quantity as a double; 0.0 if there are none.", () -> {
            is("none", 0.0, () -> new ParityGame().meanCall(0));
            is("none", 0.0, () -> Due.loaded("game; even 9").meanCall(0));
            is("all", 1.5, () -> new ParityGame().meanCall(1));
            is("one of call 0", 0.0, () -> Due.loaded("game; odd 0").meanCall(0));
            is("one of call 9", 9.0, () -> Due.loaded("game; odd 9").meanCall(0));
            is("thirds", 5.0 / 3.0, () -> Due.loaded("game; odd 1 2 2; even 9").meanCall(0));
            is("twenty of call 9", 9.0, () -> twentyOf(20).meanCall(0));
            is("nineteen of call 9", 9.0, () -> twentyOf(1).meanCall(1));
            is("the last place", 7.0, () -> Due.loaded("game; odd 1; even 7").meanCall(1));
        });
        edge(14, "Throws IllegalArgumentException if player is out of range", () -> illegal(NO_PLAYER, ParityGame::meanCall));
    }

    private static void plan() {
        edge(15, "- place: number of a place", () -> {
            ParityGame game = Due.loaded(ring("even", 20, 2));
            is("the first one", 0, () -> game.plan(0));
            is("the last one", 19, () -> game.plan(19));
            is("the only one", -1, () -> Due.loaded("game; odd 5").plan(0));
        });
        edge(15, "Returns the move of the plan; NONE if there is no move from it.", () -> {
            is("none", -1, () -> Due.loaded("game; odd 5").plan(0));
            is("none of player 0", -1, () -> Due.loaded(ENDS).plan(5));
            is("none of player 1", -1, () -> Due.loaded(ENDS).plan(2));
            is("the first move of all", 0, () -> Due.loaded("game; odd 5; move 0 0").plan(0));
            is("the last move of sixty", 59, () -> {
                // Places 0 and 1 go on to places of greater numbers; place 2 has none left but 19, which ends plays.
                ParityGame game = Due.loaded("game; even" + " 1".repeat(20) + ";move 0" + TO_ALL + ";move 1" + TO_ALL
                        + ";move 2" + TO_ALL);
                game.setOwner(19, 1);
                return game.plan(2);
            });
            ParityGame game = Due.loaded("game; odd 5; move 0 0");
            game.removeMove(0);
            is("none any more", -1, () -> game.plan(0));
        });
        edge(15, "Throws NoSuchElementException if there is no such place", () -> missing(NO_PLACE, ParityGame::plan));
    }

    private static void follow() {
        String rho = "game; odd 9; even 1 2 5; move 0 1; move 1 2; move 2 3; move 3 1";
        edge(16, "Follows the plan, both players doing so.", () -> {
            ParityGame game = Due.loaded(ENDS);
            is("player 0", 2, () -> game.follow(0, 2));
            is("player 1", 5, () -> game.follow(4, 2));
            is("a loser's first move", 1, () -> Due.loaded("game; odd 0; even 2; move 1 1; move 0 1 0").follow(0, 1));
        });
        edge(16, "- place: number of a place at which the play begins", () -> {
            is("the first one", 1, () -> Due.loaded(ring("odd", 20, 0)).follow(0, 1));
            is("the last one", 0, () -> Due.loaded(ring("odd", 20, 0)).follow(19, 1));
            is("the token stays", 0, () -> {
                ParityGame game = Due.loaded(ring("odd", 20, 0));
                game.follow(7, 7);
                return game.size(6) + game.size(7);
            });
        });
        edge(16, "- moves: 0 to 1000", () -> {
            ParityGame game = Due.loaded(rho);
            is("0", 0, () -> game.follow(0, 0));
            is("1", 1, () -> game.follow(0, 1));
            is("999", 3, () -> game.follow(0, 999));
            is("1000", 1, () -> game.follow(0, 1000));
            is("1000 round twenty", 0, () -> Due.loaded(ring("even", 20, 1)).follow(0, 1000));
        });
        edge(16, "Returns the place of the token after so many moves; NONE if the play has ended before.", () -> {
            ParityGame game = Due.loaded(ENDS);
            is("it ends just then", 2, () -> game.follow(0, 2));
            is("it has ended before", -1, () -> game.follow(0, 3));
            is("long before", -1, () -> game.follow(0, 1000));
            is("at its end, no move", 5, () -> game.follow(5, 0));
            is("at its end, one move", -1, () -> game.follow(5, 1));
            ParityGame longest = Due.loaded(line("even", 20, 0));
            is("nineteen", 19, () -> longest.follow(0, 19));
            is("twenty", -1, () -> longest.follow(0, 20));
        });
        edge(16, "Throws NoSuchElementException if there is no such place",
                () -> missing(NO_PLACE, (game, place) -> game.follow(place, 0)));
        edge(16, "Throws IllegalArgumentException if moves is out of range",
                () -> illegal(new int[] {-1, 1001, Integer.MIN_VALUE, Integer.MAX_VALUE}, (game, n) -> game.follow(0, n)));
    }

    private static void play() {
        String rho = "game; odd 9; even 1 2 5; move 0 1; move 1 2; move 2 3; move 3 1";
        ParityGame ends = Due.loaded(ENDS);
        ParityGame game = Due.loaded(rho);
        edge(17, "Tells of the play in which both players follow the plan.", () -> {
            is("player 0", 2, () -> ends.play(0, 0));
            is("player 1", 2, () -> ends.play(4, 0));
            is("a loser's first move", 1,
                    () -> Due.loaded("game; odd 0; even 2; move 1 1; move 0 1 0").play(0, 0));
            is("the token stays", 0, () -> ends.size(6) + ends.size(7));
        });
        edge(17, "- place: number of a place at which it begins", () -> {
            is("the first one", 19, () -> Due.loaded(line("even", 20, 0)).play(0, 0));
            is("the last one", 0, () -> Due.loaded(line("even", 20, 0)).play(19, 0));
        });
        edge(17, "- what: 0 how many moves are made before the token is for the first time at a place to which it comes again "
                + "and again, or, if the play ends, how many moves are made;", () -> {
            is("ahead of the round", 1, () -> game.play(0, 0));
            is("in the round", 0, () -> game.play(1, 0));
            is("in the round", 0, () -> game.play(3, 0));
            is("to itself", 0, () -> Due.loaded("game; even 1; move 0 0").play(0, 0));
            is("nineteen to a round of one", 19, () -> Due.loaded(line("even", 20, 0) + ";move 19 19").play(0, 0));
            is("round twenty", 0, () -> Due.loaded(ring("even", 20, 0)).play(7, 0));
            is("ended at once", 0, () -> ends.play(5, 0));
            is("ended", 1, () -> ends.play(1, 0));
            is("ended after nineteen", 19, () -> Due.loaded(line("odd", 20, 0)).play(0, 0));
        });
        edge(17, "1 how many different places it comes to again and again (0 if the play ends);", () -> {
            is("of the round alone", 3, () -> game.play(0, 1));
            is("from inside", 3, () -> game.play(2, 1));
            is("one", 1, () -> Due.loaded(line("even", 20, 0) + ";move 19 19").play(0, 1));
            is("twenty", 20, () -> Due.loaded(ring("even", 20, 0)).play(7, 1));
            is("ended at once", 0, () -> ends.play(2, 1));
            is("ended", 0, () -> ends.play(0, 1));
        });
        edge(17, "2 the greatest call of these (NONE if the play ends) Returns this number.", () -> {
            is("not that ahead of it", 5, () -> game.play(0, 2));
            is("from inside", 5, () -> game.play(1, 2));
            is("the call 0", 0, () -> Due.loaded("game; even 0; move 0 0").play(0, 2));
            is("the call 9", 9, () -> Due.loaded(ring("odd", 20, 9)).play(19, 2));
            is("ended at once", -1, () -> ends.play(2, 2));
            is("ended", -1, () -> ends.play(4, 2));
        });
        edge(17, "Throws NoSuchElementException if there is no such place", () -> {
            missing(NO_PLACE, (g, place) -> g.play(place, 0));
            missing(NO_PLACE, (g, place) -> g.play(place, 2));
        });
        edge(17, "Throws IllegalArgumentException if what is out of range",
                () -> illegal(new int[] {-1, 3, Integer.MIN_VALUE, Integer.MAX_VALUE}, (g, what) -> g.play(0, what)));
    }
}

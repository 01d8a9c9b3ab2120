/** Sentences of the terms, but for those about descriptions. */
abstract class TermEdges extends Edge {
    static void make() {
        constants();
        theGame();
        winning();
        plans();
        pulling();
        comingBack();
        theToken();
        changes();
        exceptions();
    }

    private static void constants() {
        edge("Terms", "The constants: NONE = -1: There is none.", () -> {
            is(-1, () -> ParityGame.NONE);
            is(ParityGame.NONE, () -> Due.loaded(ENDS).plan(2));
        });
        edge("What it is", "An object is used for at most 512 calls after it has been made; what later calls answer is free.",
                () -> {
            ParityGame game = new ParityGame();
            for (int i = 0; i < 510; i++) {
                is(100, () -> game.run(100));
            }
            is("call 511", 51000, () -> game.size(7));
            is("call 512", 25501, () -> game.heard(0));
            ParityGame other = new ParityGame();
            for (int i = 0; i < 511; i++) {
                other.addPlace(1, 9);
                other.removePlace(other.size(0) - 1);
            }
            is("many changes", 9, () -> other.undo());
        });
    }

    private static void theGame() {
        edge("Terms", "There are 1 to 20 places, numbered from 0.", () -> {
            ParityGame one = Due.loaded("game; odd 7");
            is("one", 1, () -> one.size(0));
            is("its number", 7, () -> one.place(0, 1));
            is("behind it", "throws.NoSuchElementException", () -> one.place(1, 1));
            is("not none", "throws.IllegalStateException", () -> one.removePlace(0));
            for (int place = 1; place < 20; place++) {
                int number = place;
                is("numbers", number, () -> one.addPlace(1, number % 10));
            }
            is("twenty", 20, () -> one.size(0));
            is("the last number", 9, () -> one.place(19, 1));
            is("behind it", "throws.NoSuchElementException", () -> one.place(20, 1));
            is("ahead of the first", "throws.NoSuchElementException", () -> one.place(-1, 1));
            is("not more", "throws.IllegalStateException", () -> one.addPlace(0, 0));
        });
        edge("Terms", "A place has an owner, one of the players 0 and 1 (each is the other one's other player), and a call "
                + "(0 to 9).", () -> {
            ParityGame game = Due.loaded("game; even 0; odd 9");
            is("e0 o9 @0+0 1 0 0 0 0 0 0 0 0 0", () -> Due.state(game));
            is("the other one of 0", 3, () -> game.wonIfOther(0));
            is("the other one of 1", 0, () -> game.wonIfOther(1));
            is("no player -1", "throws.IllegalArgumentException", () -> game.addPlace(-1, 0));
            is("no player 2", "throws.IllegalArgumentException", () -> game.setOwner(0, 2));
            is("no call -1", "throws.IllegalArgumentException", () -> game.setCall(0, -1));
            is("no call 10", "throws.IllegalArgumentException", () -> game.addPlace(0, 10));
            is("no call becomes 10", "throws.IllegalStateException", () -> game.exchange());
        });
        edge("Terms", "There are 0 to 60 moves, numbered from 0 in the order in which they were added.", () -> {
            ParityGame game = Due.loaded(TWENTY);
            is("none", 0, () -> game.size(1));
            is("none", "throws.NoSuchElementException", () -> game.move(0, 0));
            for (int move = 0; move < 60; move++) {
                int number = move;
                is("numbers", number, () -> game.addMove(19 - number % 20, 19 - number / 20));
            }
            is("sixty", 60, () -> game.size(1));
            for (int move = 0; move < 60; move++) {
                int number = move;
                is("from of " + number, 19 - number % 20, () -> game.move(number, 0));
                is("to of " + number, 19 - number / 20, () -> game.move(number, 1));
            }
            is("behind the last", "throws.NoSuchElementException", () -> game.move(60, 0));
            is("ahead of the first", "throws.NoSuchElementException", () -> game.move(-1, 0));
            is("not more", "throws.IllegalStateException", () -> game.addMove(0, 0));
        });
        edge("Terms", "A move leads from a place to a place (perhaps the same one); no two moves lead from the same place to "
                + "the same place.", () -> {
            ParityGame game = Due.loaded("game; odd 5 5");
            is("to the same one", 0, () -> game.addMove(1, 1));
            is("again", "throws.IllegalArgumentException", () -> game.addMove(1, 1));
            is("to another one", 1, () -> game.addMove(1, 0));
            is("again", "throws.IllegalArgumentException", () -> game.addMove(1, 0));
            is("the other way", 2, () -> game.addMove(0, 1));
            is("from another one", 3, () -> game.addMove(0, 0));
            is("three, then", 3, () -> game.removeMove(0));
            is("there is none any more", 3, () -> game.addMove(1, 1));
        });
        edge("Terms", "A set of places is told as a number, the sum of 2 to the power of the place numbers.", () -> {
            ParityGame game = Due.loaded(line("even", 20, 0));
            is("no place", 0, () -> game.won(0));
            is("all twenty", ALL_TWENTY, () -> game.won(1));
            game.setOwner(19, 1);
            is("all again", ALL_TWENTY, () -> game.won(0));
            game.removeMove(18);
            is("place 19", 524288, () -> game.won(0));
            is("the others", 524287, () -> game.won(1));
            game.setOwner(0, 1);
            game.removeMove(0);
            is("places 0 and 19", 524289, () -> game.won(0));
        });
    }

    private static void winning() {
        edge("Terms", "A play begins at a place; the owner of the place at which the token is chooses a move from it, and the "
                + "token goes to the place to which it leads, and so on.", () -> {
            ParityGame game = Due.loaded("game; even 0; odd 1; even 2; move 0 1 2; move 1 1; move 2 2");
            is("player 0 chooses", 5, () -> game.won(0));
            is("player 1 would choose", 4, () -> game.wonIfOther(0));
            game.addMove(1, 0);
            is("player 1 chooses", 5, () -> game.won(0));
            is("player 0 would choose", 7, () -> game.wonIfOther(1));
        });
        edge("Terms", "If there is no move from a place, the play ends there, and its owner loses it.", () -> {
            is("whatever the calls", 2, () -> Due.loaded("game; even 8; odd 9").won(0));
            is("behind other places", 3, () -> Due.loaded("game; even 8; odd 9; odd 8; move 1 0 2").won(1));
            is("of player 0", 3, () -> Due.loaded("game; even 0; even 0; move 0 1").won(1));
            is("of player 1", 3, () -> Due.loaded("game; odd 1; odd 1; move 0 1").won(0));
            is("all moves are lost", 3, () -> Due.loaded("game; odd 2 9; move 0 0 1").won(0));
            is("all moves are lost", 3, () -> Due.loaded("game; even 1 8; move 0 0 1").won(1));
            is("he may stay away", 1, () -> Due.loaded("game; even 0; even 0; move 0 1 0").won(0));
        });
        edge("Terms", "Otherwise the play goes on for ever; if the greatest call of all those of places to which the token comes "
                + "again and again is even, player 0 wins it, otherwise player 1 does.", () -> {
            for (int call = 0; call < 10; call++) {
                ParityGame game = Due.loaded("game; even " + call + "; move 0 0");
                is("call " + call, (call + 1) % 2, () -> game.won(0));
            }
            is("heard once", 3, () -> Due.loaded("game; even 9 0; move 0 1; move 1 1").won(0));
            is("heard once", 3, () -> Due.loaded("game; even 8 1; move 0 1; move 1 1").won(1));
            is("9 above 8", 3, () -> Due.loaded("game; even 8 9; move 0 1; move 1 0").won(1));
            is("8 above 7", 3, () -> Due.loaded("game; odd 8 7; move 0 1; move 1 0").won(0));
            is("1 above 0", 3, () -> Due.loaded("game; even 0 1; move 0 1; move 1 0").won(1));
            is("9 is left for 2", 7, () -> Due.loaded("game; odd 0; even 9 2; move 0 0 1; move 1 2 0; move 2 2").won(0));
            is("8 is left for 1", 7, () -> Due.loaded("game; even 1; odd 8 1; move 0 0 1; move 1 2 0; move 2 2").won(1));
            is("round twenty", ALL_TWENTY, () -> Due.loaded(ring("odd", 20, 0)).won(0));
            is("round twenty with one 1", ALL_TWENTY, () -> {
                ParityGame game = Due.loaded(ring("even", 20, 0));
                game.setCall(19, 1);
                return game.won(1);
            });
        });
        edge("Terms", "A player wins from a place if he can choose his moves so that he wins each play that begins there, "
                + "whatever the other player does.", () -> {
            is("he can choose", 1, () -> Due.loaded("game; even 2; odd 1; move 0 1 0; move 1 1").won(0));
            is("the other one can", 0, () -> Due.loaded("game; odd 2 1; move 0 0 1; move 1 1").won(0));
            is("each play", 3, () -> Due.loaded("game; odd 2; even 4; move 0 0 1; move 1 0").won(0));
            is("not some plays alone", 0,
                    () -> Due.loaded("game; odd 2; even 4 5; move 0 0 1 2; move 1 0; move 2 0").won(0));
        });
        edge("Terms", "(From each place exactly one of the players wins: the winner of the place.)", () -> {
            String[] texts = {"game; odd 0", "game; even 0; move 0 0", ENDS, FULL, ring("odd", 20, 9), line("even", 20, 2),
                "game; even 0 1; odd 2 3; move 0 1 2; move 1 0 3; move 2 0 3; move 3 2"};
            for (String text : texts) {
                ParityGame game = Due.loaded(text);
                int all = (1 << game.size(0)) - 1;
                is(text, all, () -> game.won(0) + game.won(1));
                is(text, 0, () -> game.won(0) & game.won(1));
                for (int place = 0; place < game.size(0); place++) {
                    int one = place;
                    is(text + " " + one, game.won(1) >> one & 1, () -> game.place(one, 4));
                }
            }
        });
    }

    private static void plans() {
        edge("Terms", "The plan tells one move for each place that has moves.", () -> {
            ParityGame game = Due.loaded(ENDS);
            int[] due = {0, 2, -1, 4, 6, -1};
            for (int place = 0; place < 6; place++) {
                int one = place;
                is("place " + one, due[one], () -> game.plan(one));
            }
            ParityGame full = Due.loaded(FULL);
            is("the first of twenty", 0, () -> full.plan(0));
            is("the first of twenty", 20, () -> full.plan(1));
            is("the first of twenty", 40, () -> full.plan(2));
            is("the last place", -1, () -> full.plan(19));
        });
        edge("Terms", "For a place whose owner is not its winner it is the first move (by ascending numbers of moves) from it.",
                () -> {
            ParityGame game = Due.loaded("game; odd 0; even 2; move 1 1; move 0 1 0");
            is(1, () -> game.plan(0));
            game.preferMove(2);
            is("preferred", 0, () -> game.plan(0));
            is("the winner's is another", 1, () -> game.plan(1));
            // That the other player wins from both ends of a move makes no difference.
            ParityGame even = Due.loaded("game; even 1 3 1; move 0 2 1; move 1 0; move 2 0");
            is("of player 0", 0, () -> even.plan(0));
        });
        edge("Terms", "For the places whose owner is the winner, the places are gone through by ascending numbers, and the move "
                + "of the plan is the first move from the place such that the owner still wins from each place from which he "
                + "wins in the game as it is, if there were only the chosen moves from this place and from all those of his "
                + "places for which one has been chosen so far (all other moves being there).", TermEdges::chosenMoves);
        edge("Terms", "(There is always such a move, and a player who follows the plan wins from each place that he wins from.)",
                () -> {
            String[] texts = {ENDS, ring("even", 20, 2), "game; even 1 1 2; move 0 1 2; move 1 0 2; move 2 0 1",
                "game; even 0 1; odd 2 3; move 0 1 2; move 1 0 3; move 2 0 3; move 3 2",
                "game; odd 0 1 2; even 4 3 3; move 0 0 1 2; move 1 2 0; move 2 1 5; move 3 4 5 3; move 4 3; move 5 4 5"};
            for (String text : texts) {
                ParityGame game = Due.loaded(text);
                int won = game.won(0);
                ParityGame planned = Due.loaded(text);
                for (int move = game.size(1) - 1; move >= 0; move--) {
                    int from = game.move(move, 0);
                    if (game.place(from, 0) == game.place(from, 4) && game.plan(from) != move) {
                        planned.removeMove(move);
                    }
                }
                is(text, won, () -> planned.won(0));
            }
        });
    }

    private static void chosenMoves() {
        // By ascending numbers: what place 0 chooses (to go to place 1) keeps place 1 from coming back to it.
        ParityGame game = Due.loaded("game; even 1 1 2; move 0 1 2; move 1 0 2; move 2 0 1");
        is("place 0 chooses first", 0, () -> game.plan(0));
        is("place 1 is bound by it", 3, () -> game.plan(1));
        is("place 2 is free", 4, () -> game.plan(2));
        // Places of a greater number still have all their moves: place 0 may go to 1, whose second move wins.
        ParityGame later = Due.loaded("game; even 1 1 2; move 0 1; move 1 0 2; move 2 2 0");
        is("a later place has its second move", 0, () -> later.plan(0));
        is("that it takes", 2, () -> later.plan(1));
        // The first move of a loser's place binds nobody: it may lead back as well.
        ParityGame free = Due.loaded("game; even 1; odd 1; even 2; move 0 1 2; move 1 2 0; move 2 2");
        is("a loser behind it", 1, () -> free.plan(0));
        is("his first move", 2, () -> free.plan(1));
        ParityGame turned = Due.loaded("game; odd 2; even 2; odd 1; move 0 1 2; move 1 2 0; move 2 2");
        is("player 0 as a loser behind it", 1, () -> turned.plan(0));
        ParityGame ahead = Due.loaded("game; odd 1; even 1 2; move 1 0 2; move 0 2 1; move 2 2");
        is("a loser ahead of it", 1, () -> ahead.plan(1));
        is("his first move", 2, () -> ahead.plan(0));
        // The moves chosen for one player do not bind the other one: place 0 (odd) goes its own way in what is its own.
        ParityGame both = Due.loaded("game; odd 1; even 2; odd 2; move 0 0; move 1 2 1; move 2 2 1");
        is("player 1", 0, () -> both.plan(0));
        is("player 0", 1, () -> both.plan(1));
        is("player 1 as a loser", 3, () -> both.plan(2));
        ParityGame none = Due.loaded("game; even 2; move 0 0");
        is("the only one", 0, () -> none.plan(0));
        ParityGame last = Due.loaded("game; even 2 1 1 1; move 0 1 2 3 0; move 1 1; move 2 2; move 3 3");
        is("the last one", 3, () -> last.plan(0));
        game.preferMove(3);
        is("first is by number", 0, () -> game.plan(1));
        is("first is by number", 1, () -> game.plan(0));
    }

    private static void pulling() {
        edge("Terms", "- A player can pull to a set from a place if he can choose his moves so that the token comes to a place "
                + "of the set after finitely many moves, whatever the other player does (at once, if the place belongs to the "
                + "set).", () -> {
            ParityGame game = Due.loaded(ENDS);
            is("he can choose", 7, () -> game.pull(0, 4));
            is("the other one can", 6, () -> game.pull(1, 4));
            is("at once", 63, () -> game.pull(0, 63));
            is("at once, where a play ends", 36, () -> game.pull(1, 36) & 36);
            is("at once", 0, () -> game.pullIn(5, 1, 32));
            is("after nineteen moves", ALL_TWENTY, () -> Due.loaded(line("odd", 20, 0)).pull(0, 1 << 19));
            is("not for ever", 2, () -> Due.loaded("game; odd 0 0; move 0 0 1; move 1 1").pull(0, 2));
        });
        edge("Terms", "A play that ends outside of the set has not come there.", () -> {
            ParityGame game = Due.loaded("game; odd 1 1 1; move 0 1");
            is("player 0", 4, () -> game.pull(0, 4));
            is("player 1", 4, () -> game.pull(1, 4));
            is("the empty set", 0, () -> game.pull(0, 0));
            is("nor in some moves", -1, () -> game.pullIn(1, 0, 4));
        });
        edge("Terms", "- A player can stay in a set from a place of it if he can choose his moves so that the token never comes "
                + "to a place outside of the set, whatever the other player does (a play may end in the set).", () -> {
            ParityGame game = Due.loaded(ENDS);
            is("he can choose", 1, () -> game.stay(0, 1));
            is("the other one can", 0, () -> game.stay(1, 1));
            is("an end of player 1", 4, () -> game.stay(0, 4));
            is("his own end", 4, () -> game.stay(1, 4));
            is("an end of player 0", 32, () -> game.stay(1, 32));
            is("to an end", 38, () -> game.stay(0, 38));
            is("in all", 63, () -> game.stay(0, 63));
            is("from a place of it alone", 0, () -> game.stay(0, 2));
            ParityGame longest = Due.loaded(line("odd", 20, 0));
            is("out of it after nineteen moves", 0, () -> longest.stay(1, ALL_TWENTY / 2));
            is("twenty to an end", ALL_TWENTY, () -> longest.stay(0, ALL_TWENTY));
        });
        edge("Terms", "- A set is a trap for a player if from each place of the set that he owns all moves lead to places of "
                + "the set, and from each place of the set that the other player owns at least one move does.", () -> {
            ParityGame game = Due.loaded(ENDS);
            ParityGame endless = Due.loaded("game; even 0 0; odd 0 0; move 0 1 0; move 1 0; move 2 0 2; move 3 0");
            is("all moves of his", true, () -> endless.isTrap(0, 3));
            is("not all moves of his", false, () -> endless.isTrap(0, 1));
            is("not all moves of his", false, () -> endless.isTrap(1, 4));
            is("one move of the other one", true, () -> endless.isTrap(0, 4));
            is("one move of the other one", true, () -> endless.isTrap(1, 1));
            is("none of the other one", false, () -> endless.isTrap(0, 8));
            is("none of the other one", false, () -> endless.isTrap(1, 2));
            is("his own end has no moves", true, () -> game.isTrap(1, 4));
            is("an end of the other one has not one", false, () -> game.isTrap(0, 4));
            is("his own end", true, () -> game.isTrap(0, 32));
            is("an end of the other one", false, () -> game.isTrap(1, 32));
            is("all with an end of the other one", false, () -> game.isTrap(0, 63));
            is("one place of many", false, () -> game.isTrap(1, 25 | 32));
            is("all twenty", true, () -> Due.loaded(ring("even", 20, 0)).isTrap(0, ALL_TWENTY));
        });
        edge("Terms", "(The empty set is one.)", () -> {
            is("for player 0", true, () -> Due.loaded(ENDS).isTrap(0, 0));
            is("for player 1", true, () -> Due.loaded(ENDS).isTrap(1, 0));
        });
    }

    private static void comingBack() {
        edge("Terms", "- A player can come back to a set from a place if he can choose his moves so that the play goes on for "
                + "ever, and the token comes to places of the set again and again, whatever the other player does.", () -> {
            ParityGame game = Due.loaded(ENDS);
            is("he can choose", 1, () -> game.comeBack(0, 1));
            is("the other one can", 0, () -> game.comeBack(1, 1));
            is("ends do not go on", 0, () -> game.comeBack(0, 36));
            is("ends do not go on", 0, () -> game.comeBack(1, 36));
            is("one round", 24, () -> game.comeBack(1, 8));
            is("another round", 24, () -> game.comeBack(1, 24));
            is("from outside", 3, () -> Due.loaded("game; even 0 0; move 0 1; move 1 1").comeBack(1, 2));
            is("once is not again and again", 0, () -> Due.loaded("game; even 0 0; move 0 1; move 1 1").comeBack(0, 1));
            is("the empty set", 0, () -> game.comeBack(0, 0));
            is("round twenty", ALL_TWENTY, () -> Due.loaded(ring("odd", 20, 0)).comeBack(0, 1));
            is("nowhere on a line", 0, () -> Due.loaded(line("odd", 20, 0)).comeBack(0, ALL_TWENTY));
        });
    }

    private static void theToken() {
        edge("Terms", "The token is at a place (at first, and behind each change that is told to lay it back, place 0).", () -> {
            is("at first", 0, () -> new ParityGame().size(6));
            ParityGame game = Due.loaded("game; odd 1 2 3; move 0 1 2; token 2");
            is("where it is laid", 2, () -> game.size(6));
            game.removePlace(1);
            is("removePlace", "o1 o3 0>1 @0+0 0 1 0 0 0 0 0 0 0 0", () -> Due.state(game));
            game.lay(1);
            game.exchange();
            is("exchange", "e2 e4 0>1 @0+0 0 0 1 0 0 0 0 0 0 0", () -> Due.state(game));
            game.lay(1);
            int[] kinds = {0, 1, 2, 3, 4, 5};
            for (int kind : kinds) {
                other(game, kind);
                is("the others leave it there, " + kind, 1, () -> game.size(6));
            }
        });
        edge("Terms", "It keeps how many moves it has made since it was laid there (or laid back), and for each call how often "
                + "it was heard since then, the place at which it was laid included.", () -> {
            ParityGame game = new ParityGame();
            is("at first", 0, () -> game.size(7));
            is("its place is heard", 1, () -> game.heard(0));
            game.run(3);
            is("moves", 3, () -> game.size(7));
            is("both places", 4, () -> game.heard(0) + game.heard(1));
            game.lay(2);
            is("laid", "0 0 0 0 1 0", () -> game.size(7) + " " + game.heard(0) + " " + game.heard(1) + " " + game.heard(9)
                    + " " + game.heard(2) + " " + game.heard(3));
            game.go(5);
            game.lay(2);
            is("laid at the same place", 0, () -> game.size(7));
            is("laid at the same place", 1, () -> game.heard(2));
            game.go(5);
            game.go(6);
            is("two moves", 2, () -> game.size(7));
            is("the first place and the last one", 2, () -> game.heard(2));
            game.exchange();
            is("laid back", "o1 o2 e3 e4 0>1 0>2 1>0 1>3 2>0 2>3 3>2 @0+0 0 1 0 0 0 0 0 0 0 0", () -> Due.state(game));
            game.go(1);
            game.removePlace(1);
            is("laid back", "o1 e3 e4 0>1 1>0 1>2 2>1 @0+0 0 1 0 0 0 0 0 0 0 0", () -> Due.state(game));
        });
    }

    /** The changes that leave the token where it is. */
    private static void other(ParityGame game, int kind) {
        switch (kind) {
            case 0: game.addPlace(0, 3); break;
            case 1: game.setOwner(1, 1); break;
            case 2: game.setCall(1, 7); break;
            case 3: game.addMove(1, 2); break;
            case 4: game.preferMove(1); break;
            default: game.removeMove(1);
        }
    }

    private static void changes() {
        edge("Terms", "The methods of the section \"changes\" are changes if they do not throw, even if everything stays as it "
                + "was.", () -> {
            ParityGame game = Due.loaded("game; odd 5 6; move 0 1 0; token 1");
            game.save(1);
            Due.Call[] calls = {() -> game.setOwner(1, 1), () -> game.setCall(0, 5), () -> game.preferMove(0),
                () -> game.lay(1), () -> game.run(100), () -> game.restore(1)};
            int[] answers = {1, 5, 0, 0, 0, 2};
            String before = Due.state(game);
            for (int i = 0; i < calls.length; i++) {
                is("call " + i, answers[i], calls[i]);
                is("call " + i + " leaves all as it was", before, () -> Due.state(game));
                is("call " + i + " is a change", 0, () -> game.undo());
            }
            Due.Call[] others = {() -> game.addPlace(0, 0), () -> game.removePlace(0), () -> game.addMove(1, 1),
                () -> game.removeMove(0), () -> game.exchange(), () -> game.lay(0)};
            for (int i = 0; i < others.length; i++) {
                others[i].answer();
                is("other call " + i + " is a change", 0, () -> game.undo());
                is("other call " + i + " is undone", before, () -> Due.state(game));
            }
            game.lay(0);
            game.go(0);
            is("go is a change", 1, () -> game.undo());
        });
        edge("Terms", "The latest 10 changes can be undone, one after the other: each undo brings everything back to what it was "
                + "before the change, except for the buffers, errorCode() and errorPosition() and what is saved.", () -> {
            for (int changes = 0; changes <= 31; changes++) {
                undoAll(changes);
            }
            undoBetween();
            ParityGame game = rich();
            game.writePlaces();
            String output = output(game);
            game.setCall(0, 8);
            game.writePlaces();
            String later = output(game);
            game.save(1);
            Due.feed(game, "game");
            is("an input", "throws.IllegalStateException", () -> game.load(4));
            Due.feed(game, "game; even 6 7");
            game.undo();
            is("another output", false, () -> output.equals(later));
            is("the output buffer stays", later, () -> output(game));
            is("errorCode() stays", 6, () -> game.errorCode());
            is("errorPosition() stays", 4, () -> game.errorPosition());
            is("what is saved stays", 6, () -> game.restore(1));
            is("what is saved stays", 8, () -> game.place(0, 1));
            game.undo();
            is("the input buffer stays", 2, () -> game.load(14));
        });
    }

    /** So many changes, then undo till it throws; then once more behind other changes. */
    private static void undoAll(int changes) {
        ParityGame game = Due.loaded("game; odd 5 6 7");
        for (int i = 0; i < changes; i++) {
            game.setCall(i % 3, i % 10);
        }
        int most = Math.min(changes, 10);
        for (int i = 1; i <= most; i++) {
            int left = most - i;
            int undone = changes - i;
            is(changes + " changes", left, () -> game.undo());
            int due = undone < 3 ? 5 + undone % 3 : (undone - 3) % 10;
            is(changes + " changes, before change " + undone, due, () -> game.place(undone % 3, 1));
        }
        is(changes + " changes", "throws.IllegalStateException", () -> game.undo());
        for (int i = 0; i < changes; i++) {
            game.setOwner(0, i % 2);
        }
        is("and again", most == 0 ? "throws.IllegalStateException" : (Object) (most - 1), () -> game.undo());
    }

    /** Behind an undo, one more change takes the room that has become free: none of the ten is dropped for it. */
    private static void undoBetween() {
        ParityGame game = Due.loaded("game; odd 5");
        for (int i = 0; i < 12; i++) {
            game.addPlace(0, 0);
        }
        is("12 changes, one undone", 9, () -> game.undo());
        game.addPlace(1, 0);
        for (int left = 9; left >= 0; left--) {
            int places = 3 + left;
            is("12 changes, one undone, one more", left, () -> game.undo());
            is("12 changes, one undone, one more: places", places, () -> game.size(0));
        }
        is("12 changes, one undone, one more", "throws.IllegalStateException", () -> game.undo());
        is("12 changes, one undone, one more: places", 3, () -> game.size(0));
    }

    private static void exceptions() {
        edge("Terms", "If several exceptions apply to a call, the one that is listed first in its description is thrown.", () -> {
            ParityGame game = rich();
            int no = -1;
            is("load", "throws.IllegalArgumentException", () -> game.load(41));
            missing(new int[] {-1, 6}, (g, v) -> g.place(v, 5));
            missing(new int[] {-1, 7}, (g, v) -> g.move(v, 2));
            missing(new int[] {-1, 6}, (g, v) -> g.follow(v, 1001));
            missing(new int[] {-1, 6}, (g, v) -> g.play(v, 3));
            missing(new int[] {-1, 6}, (g, v) -> g.pullIn(v, 2, 0));
            missing(new int[] {-1, 6}, (g, v) -> g.pullIn(v, 0, -1));
            missing(new int[] {-1, 6}, (g, v) -> g.wonIfCall(v, 10));
            missing(new int[] {-1, 6}, (g, v) -> g.leastCall(2, v, 0));
            missing(new int[] {-1, 6}, (g, v) -> g.leastCall(no, 0, v));
            missing(new int[] {-1, 6}, (g, v) -> g.setOwner(v, 2));
            missing(new int[] {-1, 6}, (g, v) -> g.setCall(v, 10));
            missing(new int[] {-1, 7}, (g, v) -> g.go(v));
            ParityGame full = Due.loaded(FULL);
            is("addPlace: owner", "throws.IllegalArgumentException", () -> full.addPlace(2, 0));
            is("addPlace: call", "throws.IllegalArgumentException", () -> full.addPlace(0, 10));
            is("addMove: no place", "throws.NoSuchElementException", () -> full.addMove(20, 0));
            is("addMove: no place", "throws.NoSuchElementException", () -> full.addMove(0, -1));
            is("addMove: there is one", "throws.IllegalArgumentException", () -> full.addMove(2, 19));
            ParityGame one = Due.loaded("game; odd 5");
            is("removePlace", "throws.NoSuchElementException", () -> one.removePlace(1));
            is("restore", "throws.IllegalArgumentException", () -> one.restore(2));
        });
        edge("Terms", "A call that throws changes nothing, unless its description says otherwise.", () -> {
            // Each test of a sentence that begins with "Throws" looks for this; here are calls that throw far inside.
            throwing("IllegalStateException", Edge::rich, new int[] {0, 1, 2, 5, 6}, ParityGame::go);
            throwing("IllegalStateException", Edge::rich, new int[] {1}, ParityGame::restore);
            throwing("IllegalStateException", () -> Due.loaded("game; even 1 2 9; move 0 1; token 2"), new int[] {0},
                    (game, v) -> game.exchange());
            throwing("IllegalArgumentException", () -> Due.loaded(FULL), new int[] {0, 1, 2}, (game, v) -> game.addMove(v, 19));
            throwing("IllegalStateException", () -> Due.loaded(FULL), new int[] {3, 19}, (game, v) -> game.addMove(v, 19));
            throwing("IllegalStateException", () -> Due.loaded("game; odd 5; move 0 0"), new int[] {0},
                    ParityGame::removePlace);
        });
    }
}

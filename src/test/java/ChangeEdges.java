/** Sentences of promises 31 to 46: changes, undo and save, output. */
abstract class ChangeEdges extends Edge {
    private static final String NO_SUCH_PLACE = "Throws NoSuchElementException if there is no such place";
    private static final String NO_SUCH_MOVE = "Throws NoSuchElementException if there is no such move";

    static void make() {
        addPlace();
        removePlace();
        setOwner();
        setCall();
        addMove();
        removeMove();
        preferMove();
        exchange();
        lay();
        go();
        run();
        restore();
        undo();
        save();
        writePlaces();
        outputByte();
    }

    private static ParityGame one() {
        return Due.loaded("game; odd 5");
    }

    private static ParityGame oneRound() {
        return Due.loaded("game; odd 5; move 0 0");
    }

    private static ParityGame full() {
        return Due.loaded(FULL);
    }

    private static void addPlace() {
        edge(31, "Adds a place with the next number, without moves.", () -> {
            ParityGame game = Due.loaded("game; odd 5; move 0 0");
            game.addPlace(0, 3);
            is("o5 e3 0>0 @0+0 0 0 0 0 0 1 0 0 0 0", () -> Due.state(game));
            is("nothing from it", 0, () -> game.place(1, 2));
            is("nothing to it", 0, () -> game.place(1, 3));
            is("its owner loses", 1, () -> game.place(1, 4));
            ParityGame again = Due.loaded("game; even 1 2; odd 9; move 0 2 1; move 2 2");
            again.removePlace(2);
            again.addPlace(0, 0);
            is("where there was another one", "e1 e2 e0 0>1 @0+0 0 1 0 0 0 0 0 0 0 0", () -> Due.state(again));
        });
        edge(31, "- owner: 0 or 1 - call: 0 to 9", () -> {
            ParityGame game = one();
            game.addPlace(0, 0);
            game.addPlace(1, 9);
            game.addPlace(0, 9);
            game.addPlace(1, 0);
            is("o5 e0 o9 e9 o0 @0+0 0 0 0 0 0 1 0 0 0 0", () -> Due.state(game));
        });
        edge(31, "Returns its number.", () -> {
            ParityGame game = one();
            for (int place = 1; place < 20; place++) {
                is(place, () -> game.addPlace(1, 4));
            }
            game.removePlace(0);
            is("the next one", 19, () -> game.addPlace(0, 4));
        });
        edge(31, "Throws IllegalArgumentException if owner or call is out of range", () -> {
            illegal(NO_PLAYER, (game, owner) -> game.addPlace(owner, 0));
            illegal(NO_CALL, (game, call) -> game.addPlace(0, call));
            illegal(NO_CALL, (game, both) -> game.addPlace(both, both));
        });
        edge(31, "Throws IllegalStateException if there are 20 places", () -> {
            throwing("IllegalStateException", ChangeEdges::full, new int[] {0, 1}, (game, owner) -> game.addPlace(owner, 0));
            ParityGame game = full();
            game.removePlace(19);
            is("nineteen", 19, () -> game.addPlace(0, 0));
            is("twenty again", "throws.IllegalStateException", () -> game.addPlace(0, 0));
        });
    }

    private static void removePlace() {
        edge(32, "Removes a place with all moves from it and to it; the numbers of the places behind it become less by 1, the "
                + "other moves keep their order, and their numbers follow one another.", () -> {
            String text = "game; odd 1 2; even 3 4; move 3 2 0; move 1 3 0; move 0 3 1; move 2 2 1; move 3 3; token 3";
            String[] due = {"o2 e3 e4 2>1 0>2 1>1 1>0 2>2 @0+0 0 0 1 0 0 0 0 0 0 0",
                "o1 e3 e4 2>1 2>0 0>2 1>1 2>2 @0+0 0 1 0 0 0 0 0 0 0 0",
                "o1 o2 e4 2>0 1>2 1>0 0>2 0>1 2>2 @0+0 0 1 0 0 0 0 0 0 0 0",
                "o1 o2 e3 1>0 0>1 2>2 2>1 @0+0 0 1 0 0 0 0 0 0 0 0"};
            for (int place = 0; place < 4; place++) {
                ParityGame game = Due.loaded(text);
                game.run(3);
                game.removePlace(place);
                is("place " + place, due[place], () -> Due.state(game));
            }
            // Sixty moves between eight places; the ninth one has none.
            ParityGame apart = Due.loaded("game; odd" + " 5".repeat(9));
            for (int move = 0; move < 60; move++) {
                apart.addMove(7 - move / 8, move % 8);
            }
            is("no moves of sixty", 0, () -> apart.removePlace(8));
            is("the sixtieth one stays", "0 3", () -> apart.move(59, 0) + " " + apart.move(59, 1));
            ParityGame game = full();
            game.removePlace(0);
            is("the first of twenty", 19, () -> game.size(0));
            is("the last one then", 9, () -> game.place(18, 1));
            is("its owner", 1, () -> game.place(18, 0));
            is("the last of player 0", "0 1", () -> game.place(8, 0) + " " + game.place(9, 0));
            is("the last move", "1 18", () -> game.move(37, 0) + " " + game.move(37, 1));
        });
        edge(32, "The token is laid back.", () -> {
            for (int place = 0; place < 3; place++) {
                ParityGame game = Due.loaded("game; odd 1 2 3; move 0 1; move 1 2; move 2 0; token 2");
                game.run(4);
                game.removePlace(place);
                int call = place == 0 ? 2 : 1;
                is("without place " + place, "0 0", () -> game.size(6) + " " + game.size(7));
                for (int other = 0; other < 10; other++) {
                    int one = other;
                    is("without place " + place + ", call " + one, one == call ? 1 : 0, () -> game.heard(one));
                }
            }
            ParityGame last = full();
            last.lay(19);
            last.removePlace(19);
            is("that was at the last place", 0, () -> last.size(6));
        });
        edge(32, "- place: number of a place", () -> {
            is("the first one", 0, () -> Due.loaded(TWENTY).removePlace(0));
            is("the last one", 0, () -> Due.loaded(TWENTY).removePlace(19));
        });
        edge(32, "Returns how many moves were removed.", () -> {
            is("none", 0, () -> Due.loaded("game; odd 5 5; move 1 1").removePlace(0));
            is("one to itself", 1, () -> Due.loaded("game; odd 5 5; move 0 0").removePlace(0));
            is("one from it", 1, () -> Due.loaded("game; odd 5 5; move 0 1").removePlace(0));
            is("one to it", 1, () -> Due.loaded("game; odd 5 5; move 0 1").removePlace(1));
            is("all", 4, () -> Due.loaded("game; odd 5 5 5; move 0 1; move 1 0 1 2").removePlace(1));
            is("of sixty", 22, () -> full().removePlace(0));
            is("of sixty", 3, () -> full().removePlace(19));
        });
        edge(32, NO_SUCH_PLACE, () -> {
            missing(NO_PLACE, ParityGame::removePlace);
            throwing("NoSuchElementException", ChangeEdges::one, new int[] {-1, 1}, ParityGame::removePlace);
            throwing("NoSuchElementException", ChangeEdges::full, new int[] {-1, 20}, ParityGame::removePlace);
        });
        edge(32, "Throws IllegalStateException if it is the only one", () -> {
            throwing("IllegalStateException", ChangeEdges::one, new int[] {0}, ParityGame::removePlace);
            throwing("IllegalStateException", ChangeEdges::oneRound, new int[] {0}, ParityGame::removePlace);
            ParityGame game = Due.loaded("game; odd 5 6");
            is("one of two", 0, () -> game.removePlace(0));
            is("the last one", "throws.IllegalStateException", () -> game.removePlace(0));
        });
    }

    private static void setOwner() {
        edge(33, "- place: number of a place - owner: 0 or 1: its owner", () -> {
            ParityGame game = full();
            game.setOwner(0, 1);
            game.setOwner(19, 0);
            is("the first one", 1, () -> game.place(0, 0));
            is("the last one", 0, () -> game.place(19, 0));
            is("no other one", 10, () -> game.size(2));
        });
        edge(33, "Returns its previous owner.", () -> {
            ParityGame game = full();
            is("0", 0, () -> game.setOwner(0, 1));
            is("1", 1, () -> game.setOwner(0, 1));
            is("1, it stays so", 1, () -> game.place(0, 0));
            is("1", 1, () -> game.setOwner(0, 0));
            is("0", 0, () -> game.setOwner(0, 0));
            is("0, it stays so", 0, () -> game.place(0, 0));
        });
        edge(33, NO_SUCH_PLACE, () -> missing(NO_PLACE, (game, place) -> game.setOwner(place, 0)));
        edge(33, "Throws IllegalArgumentException if owner is out of range",
                () -> illegal(NO_PLAYER, (game, owner) -> game.setOwner(0, owner)));
    }

    private static void setCall() {
        edge(34, "- place: number of a place - call: 0 to 9: its call (what was heard before stays)", () -> {
            ParityGame game = oneRound();
            game.run(2);
            game.setCall(0, 9);
            is("9", "o9 0>0 @0+2 0 0 0 0 0 3 0 0 0 0", () -> Due.state(game));
            game.run(1);
            is("heard since", "o9 0>0 @0+3 0 0 0 0 0 3 0 0 0 1", () -> Due.state(game));
            game.setCall(0, 0);
            is("0", "o0 0>0 @0+3 0 0 0 0 0 3 0 0 0 1", () -> Due.state(game));
            ParityGame full = full();
            full.setCall(19, 0);
            is("the last place", 0, () -> full.place(19, 1));
        });
        edge(34, "Returns its previous call.", () -> {
            ParityGame game = one();
            is("5", 5, () -> game.setCall(0, 0));
            is("0", 0, () -> game.setCall(0, 9));
            is("9", 9, () -> game.setCall(0, 9));
            is("9 again", 9, () -> game.setCall(0, 1));
        });
        edge(34, NO_SUCH_PLACE, () -> missing(NO_PLACE, (game, place) -> game.setCall(place, 0)));
        edge(34, "Throws IllegalArgumentException if call is out of range",
                () -> illegal(NO_CALL, (game, call) -> game.setCall(0, call)));
    }

    private static void addMove() {
        edge(35, "- from: number of a place - to: number of a place", () -> {
            ParityGame game = Due.loaded(TWENTY);
            game.addMove(0, 19);
            game.addMove(19, 0);
            game.addMove(19, 19);
            is("0>19 19>0 19>19 @0", () -> Due.state(game).replaceAll("([eo][0-9] )+", "").substring(0, 18));
        });
        edge(35, "Returns the number of the new move.", () -> {
            ParityGame game = one();
            is("the first one", 0, () -> game.addMove(0, 0));
            is("the seventh one of a new workbench", 7, () -> new ParityGame().addMove(0, 0));
            ParityGame full = full();
            full.removeMove(0);
            is("the last one", 59, () -> full.addMove(0, 0));
        });
        edge(35, NO_SUCH_PLACE, () -> {
            missing(NO_PLACE, (game, place) -> game.addMove(place, 0));
            missing(NO_PLACE, (game, place) -> game.addMove(5, place));
            missing(NO_PLACE, (game, place) -> game.addMove(place, place));
        });
        edge(35, "Throws IllegalArgumentException if there is a move from the one to the other", () -> {
            illegal(new int[] {0, 1}, (game, place) -> game.addMove(0, place));
            illegal(new int[] {3, 4}, (game, place) -> game.addMove(4, place));
            throwing("IllegalArgumentException", ChangeEdges::oneRound, new int[] {0}, (game, place) -> game.addMove(0, place));
            is("the other way there is none", 7, () -> rich().addMove(1, 0));
        });
        edge(35, "Throws IllegalStateException if there are 60 moves", () -> {
            throwing("IllegalStateException", ChangeEdges::full, new int[] {3, 19}, (game, place) -> game.addMove(place, 0));
            ParityGame game = full();
            game.removeMove(59);
            is("fifty-nine", 59, () -> game.addMove(19, 19));
            is("sixty again", "throws.IllegalStateException", () -> game.addMove(2, 19));
        });
    }

    private static void removeMove() {
        edge(36, "Removes a move; the numbers of the moves behind it become less by 1.", () -> {
            String[] due = {"0>0 1>1 1>0", "0>1 1>1 1>0", "0>1 0>0 1>0", "0>1 0>0 1>1"};
            for (int move = 0; move < 4; move++) {
                ParityGame game = Due.loaded("game; odd 5 5; move 0 1 0; move 1 1 0");
                game.removeMove(move);
                String told = "o5 o5 " + due[move] + " @0+0 0 0 0 0 0 1 0 0 0 0";
                is("move " + move, told, () -> Due.state(game));
            }
            ParityGame full = full();
            full.removeMove(0);
            is("the first of sixty", "0 1", () -> full.move(0, 0) + " " + full.move(0, 1));
            is("the last one then", "2 19", () -> full.move(58, 0) + " " + full.move(58, 1));
            is("no sixtieth one", "throws.NoSuchElementException", () -> full.move(59, 0));
        });
        edge(36, "- move: number of a move", () -> {
            is("the first one", 59, () -> full().removeMove(0));
            is("the last one", 59, () -> full().removeMove(59));
        });
        edge(36, "Returns how many moves there are then.", () -> {
            is("none", 0, () -> oneRound().removeMove(0));
            is("six", 6, () -> new ParityGame().removeMove(3));
        });
        edge(36, NO_SUCH_MOVE, () -> {
            missing(NO_MOVE, ParityGame::removeMove);
            throwing("NoSuchElementException", ChangeEdges::one, new int[] {-1, 0}, ParityGame::removeMove);
            throwing("NoSuchElementException", ChangeEdges::full, new int[] {60}, ParityGame::removeMove);
        });
    }

    private static void preferMove() {
        edge(37, "Moves a move to the front: it gets the number 0, and the numbers of those that were ahead of it become greater "
                + "by 1.", () -> {
            String[] due = {"0>1 0>0 1>1 1>0", "0>0 0>1 1>1 1>0", "1>1 0>1 0>0 1>0", "1>0 0>1 0>0 1>1"};
            for (int move = 0; move < 4; move++) {
                ParityGame game = Due.loaded("game; odd 5 5; move 0 1 0; move 1 1 0");
                game.preferMove(move);
                String told = "o5 o5 " + due[move] + " @0+0 0 0 0 0 0 1 0 0 0 0";
                is("move " + move, told, () -> Due.state(game));
            }
            ParityGame full = full();
            full.preferMove(59);
            is("the last of sixty", "2 19", () -> full.move(0, 0) + " " + full.move(0, 1));
            is("the last one then", "2 18", () -> full.move(59, 0) + " " + full.move(59, 1));
        });
        edge(37, "- move: number of a move Returns the place from which it leads.", () -> {
            is("the first one", 0, () -> full().preferMove(0));
            is("the last one", 2, () -> full().preferMove(59));
            is("from the last place", 19, () -> Due.loaded(ring("odd", 20, 0)).preferMove(19));
            is("the only one", 0, () -> oneRound().preferMove(0));
        });
        edge(37, NO_SUCH_MOVE, () -> {
            missing(NO_MOVE, ParityGame::preferMove);
            throwing("NoSuchElementException", ChangeEdges::one, new int[] {-1, 0}, ParityGame::preferMove);
            throwing("NoSuchElementException", ChangeEdges::full, new int[] {60}, ParityGame::preferMove);
        });
    }

    private static void exchange() {
        String[] texts = {"game; even 0", "game; odd 8; move 0 0", ENDS, line("even", 20, 8), ring("odd", 20, 0),
            "game; even 0 1 2; odd 6 7 8; move 0 1 2; move 1 0 3; move 2 5; move 3 4 1; move 4 0 2 4; move 5 1; token 5"};
        edge(38, "Exchanges the players: each place gets the other owner, and its call becomes greater by 1.", () -> {
            for (String text : texts) {
                ParityGame game = Due.loaded(text);
                ParityGame before = Due.loaded(text);
                game.run(2);
                game.exchange();
                for (int place = 0; place < before.size(0); place++) {
                    int at = place;
                    is(text, 1 - before.place(at, 0), () -> game.place(at, 0));
                    is(text, before.place(at, 1) + 1, () -> game.place(at, 1));
                }
                is(text + " owners", before.size(0) - before.size(2), () -> game.size(2));
                is(text + " moves", before.size(1), () -> game.size(1));
            }
        });
        edge(38, "(Then each place has the other winner.)", () -> {
            for (String text : texts) {
                ParityGame game = Due.loaded(text);
                int won = game.won(0);
                game.exchange();
                is(text + " won 1", won, () -> game.won(1));
                is(text + " won 0", (1 << game.size(0)) - 1 - won, () -> game.won(0));
            }
        });
        edge(38, "The token is laid back.", () -> {
            for (String text : texts) {
                ParityGame game = Due.loaded(text);
                game.lay(game.size(0) - 1);
                game.run(2);
                game.exchange();
                is(text, "0 0 1", () -> game.size(6) + " " + game.size(7) + " " + game.heard(game.place(0, 1)));
                int heard = 0;
                for (int call = 0; call < 10; call++) {
                    heard += game.heard(call);
                }
                int all = heard;
                is(text + ", nothing else is heard", 1, () -> all);
            }
        });
        edge(38, "Returns the greatest call then.", () -> {
            is("1", 1, () -> Due.loaded("game; even 0").exchange());
            is("9", 9, () -> Due.loaded("game; even 0 8 0").exchange());
            is("of the last place", 9, () -> Due.loaded("game; even" + " 0".repeat(19) + " 8").exchange());
        });
        edge(38, "Throws IllegalStateException if a call is 9", () -> {
            throwing("IllegalStateException", ChangeEdges::full, new int[] {0}, (game, v) -> game.exchange());
            throwing("IllegalStateException", () -> Due.loaded("game; even 9 0"), new int[] {0}, (game, v) -> game.exchange());
            throwing("IllegalStateException", () -> Due.loaded("game; even 0; odd 9"), new int[] {0},
                    (game, v) -> game.exchange());
            ParityGame game = Due.loaded("game; even 8");
            is("8", 9, () -> game.exchange());
            is("9", "throws.IllegalStateException", () -> game.exchange());
        });
    }

    private static void lay() {
        edge(39, "Lays the token at a place.", () -> {
            ParityGame game = rich();
            game.lay(1);
            is("@1+0 0 0 0 0 1 0 0 0 0 0", () -> Due.state(game).replaceAll(".*@", "@"));
            game.lay(1);
            is("where it is", "@1+0 0 0 0 0 1 0 0 0 0 0", () -> Due.state(game).replaceAll(".*@", "@"));
        });
        edge(39, "- place: number of a place Returns its winner.", () -> {
            is("the first one", 0, () -> full().lay(0));
            is("the last one", 0, () -> full().lay(19));
            is("player 1", 1, () -> full().lay(3));
            ParityGame game = full();
            game.lay(19);
            is("the last one", 19, () -> game.size(6));
        });
        edge(39, NO_SUCH_PLACE, () -> {
            missing(NO_PLACE, ParityGame::lay);
            throwing("NoSuchElementException", ChangeEdges::full, new int[] {-1, 20}, ParityGame::lay);
        });
    }

    private static void go() {
        edge(40, "Moves the token.", () -> {
            ParityGame game = Due.loaded("game; odd 5 6; move 0 0 1");
            game.go(0);
            is("to the same place", "@0+1 0 0 0 0 0 2 0 0 0 0", () -> Due.state(game).replaceAll(".*@", "@"));
            game.go(1);
            is("to another one", "@1+2 0 0 0 0 0 2 1 0 0 0", () -> Due.state(game).replaceAll(".*@", "@"));
        });
        edge(40, "- move: number of a move Returns the call of the place to which it comes.", () -> {
            is("the first move", 0, () -> full().go(0));
            is("to the last place", 9, () -> full().go(19));
            ParityGame game = full();
            game.lay(2);
            is("the last move", 9, () -> game.go(59));
            is("there", 19, () -> game.size(6));
            is("not by the plan", 6, () -> Due.loaded("game; odd 5 6; move 0 0 1").go(1));
        });
        edge(40, NO_SUCH_MOVE, () -> {
            missing(NO_MOVE, ParityGame::go);
            throwing("NoSuchElementException", ChangeEdges::one, new int[] {-1, 0}, ParityGame::go);
            throwing("NoSuchElementException", ChangeEdges::full, new int[] {60}, ParityGame::go);
        });
        edge(40, "Throws IllegalStateException if the move does not lead from the place of the token", () -> {
            throwing("IllegalStateException", Edge::rich, new int[] {0, 2, 6}, ParityGame::go);
            throwing("IllegalStateException", ChangeEdges::full, new int[] {20, 59}, ParityGame::go);
            // Nor if it leads to the place of the token.
            throwing("IllegalStateException", () -> Due.loaded("game; odd 5 6; move 1 0"), new int[] {0}, ParityGame::go);
        });
    }

    private static void run() {
        edge(41, "Moves the token by the plan, so many times, or until there is no move from its place.", () -> {
            ParityGame game = Due.loaded("game; even 1; odd 2; even 3; move 0 0 1; move 1 2 1; move 2 1; token 2");
            game.run(3);
            is("so many times", "@1+3 0 0 2 2 0 0 0 0 0 0", () -> Due.state(game).replaceAll(".*@", "@"));
            ParityGame ends = Due.loaded(ENDS);
            ends.run(100);
            is("until there is none", "@2+2 0 0 0 1 1 1 0 0 0 0", () -> Due.state(ends).replaceAll(".*@", "@"));
            ends.run(1);
            is("there is none", "@2+2 0 0 0 1 1 1 0 0 0 0", () -> Due.state(ends).replaceAll(".*@", "@"));
        });
        edge(41, "- moves: 1 to 100 Returns how many moves were made.", () -> {
            is("1", 1, () -> oneRound().run(1));
            is("99", 99, () -> oneRound().run(99));
            is("100", 100, () -> oneRound().run(100));
            is("to the end", 19, () -> Due.loaded(line("odd", 20, 0)).run(100));
            is("just to the end", 19, () -> Due.loaded(line("odd", 20, 0)).run(19));
            is("not yet to the end", 18, () -> Due.loaded(line("odd", 20, 0)).run(18));
            is("none", 0, () -> one().run(1));
            is("none", 0, () -> one().run(100));
        });
        edge(41, "Throws IllegalArgumentException if moves is out of range", () -> {
            illegal(new int[] {0, -1, 101, Integer.MIN_VALUE, Integer.MAX_VALUE}, ParityGame::run);
            throwing("IllegalArgumentException", ChangeEdges::one, new int[] {0, 101}, ParityGame::run);
        });
    }

    private static void restore() {
        edge(42, "Makes everything that undo() brings back what it was at the latest save() with this slot.", () -> {
            ParityGame game = rich();
            String first = Due.state(game);
            game.save(1);
            game.removePlace(0);
            game.exchange();
            game.restore(1);
            is("everything", first, () -> Due.state(game));
            game.restore(0);
            is("slot 0", "@4+0 0 0 1 0 0 0 0 0 0 0", () -> Due.state(game).replaceAll(".*@", "@"));
            String zero = Due.state(game);
            game.removePlace(3);
            game.save(0);
            game.restore(1);
            game.restore(0);
            is("the latest one", 5, () -> game.size(0));
            is("not the earlier one", false, () -> zero.equals(Due.state(game)));
            game.undo();
            is("undone", first, () -> Due.state(game));
        });
        edge(42, "It stays saved.", () -> {
            ParityGame game = rich();
            String first = Due.state(game);
            game.save(1);
            for (int i = 0; i < 12; i++) {
                game.removePlace(5 - i % 3);
                game.setCall(0, i % 10);
                game.lay(1);
                is("again and again", 6, () -> game.restore(1));
                is("again and again", first, () -> Due.state(game));
            }
            game.undo();
            game.restore(1);
            is("behind undo", first, () -> Due.state(game));
            is("in both slots", 2, () -> game.save(1));
        });
        edge(42, "- slot: 0 or 1 Returns the quantity of places then.", () -> {
            ParityGame game = full();
            game.save(1);
            Due.feed(game, "game; odd 5");
            is("another game", 1, () -> game.load(11));
            game.save(0);
            game.addPlace(0, 0);
            game.save(1);
            is("slot 0", 1, () -> game.restore(0));
            is("slot 1", 2, () -> game.restore(1));
            ParityGame full = full();
            full.save(1);
            full.removePlace(7);
            is("twenty", 20, () -> full.restore(1));
        });
        edge(42, "Throws IllegalArgumentException if slot is out of range", () -> illegal(NO_SLOT, ParityGame::restore));
        edge(42, "Throws IllegalStateException if there was no such save() since the latest load() that replaced everything",
                () -> {
            throwing("IllegalStateException", ParityGame::new, new int[] {0, 1}, ParityGame::restore);
            throwing("IllegalStateException", Edge::rich, new int[] {1}, ParityGame::restore);
            ParityGame game = rich();
            is("a wrong text", "throws.IllegalStateException", () -> game.load(40));
            is("it replaced nothing", 6, () -> game.restore(0));
            Due.feed(game, "game; odd 5");
            game.load(11);
            is("it replaced everything", "throws.IllegalStateException", () -> game.restore(0));
            game.save(0);
            is("saved since then", 1, () -> game.restore(0));
            is("the other slot", "throws.IllegalStateException", () -> game.restore(1));
        });
    }

    private static void undo() {
        edge(43, "Undoes the latest change that was not undone.", () -> {
            ParityGame round = oneRound();
            round.setCall(0, 6);
            is("who wins", 1, () -> round.won(0));
            is("undone", 0, () -> round.undo());
            is("who wins then", 0, () -> round.won(0));
            ParityGame game = one();
            game.setCall(0, 6);
            game.setCall(0, 7);
            game.undo();
            is("the latest", 6, () -> game.place(0, 1));
            game.setCall(0, 8);
            game.undo();
            is("the one behind it", 6, () -> game.place(0, 1));
            game.undo();
            is("that was not undone", 5, () -> game.place(0, 1));
            for (int i = 0; i < 15; i++) {
                // Two changes are made and undone; the second one takes the place of the tenth one behind it.
                game.setCall(0, 1);
                game.setCall(0, 2);
                game.undo();
                int left = Math.min(i, 8);
                is("round and round", left, () -> game.undo());
                game.addPlace(1, 0);
                game.removePlace(1);
                game.undo();
            }
        });
        edge(43, "Returns how many changes can still be undone.", () -> {
            ParityGame game = one();
            for (int i = 0; i < 11; i++) {
                game.setCall(0, i % 10);
            }
            for (int i = 9; i >= 0; i--) {
                is(i, () -> game.undo());
            }
            game.setCall(0, 0);
            is("the only one", 0, () -> game.undo());
            for (int i = 0; i < 10; i++) {
                game.setCall(0, 0);
            }
            is("ten", 9, () -> game.undo());
            game.setCall(0, 0);
            is("ten again", 9, () -> game.undo());
        });
        edge(43, "Throws IllegalStateException if there is none", () -> {
            throwing("IllegalStateException", ParityGame::new, new int[] {0}, (game, v) -> game.undo());
            Made eleven = () -> {
                ParityGame game = full();
                game.save(1);
                for (int i = 0; i < 11; i++) {
                    game.setCall(0, i % 10);
                }
                for (int i = 0; i < 10; i++) {
                    game.undo();
                }
                return game;
            };
            throwing("IllegalStateException", eleven, new int[] {0}, (game, v) -> game.undo());
            Made loaded = () -> {
                ParityGame game = rich();
                game.load(11);
                return game;
            };
            throwing("IllegalStateException", loaded, new int[] {0}, (game, v) -> game.undo());
        });
    }

    private static void save() {
        edge(44, "Saves everything that undo() brings back in a slot, in place of what was saved there.", () -> {
            ParityGame game = rich();
            String state = Due.state(game);
            game.save(0);
            is("in place of what was there", state, () -> {
                game.lay(0);
                game.restore(0);
                return Due.state(game);
            });
        });
        edge(44, "This is not a change and is not undone.", () -> {
            ParityGame none = one();
            none.save(0);
            is("not a change", "throws.IllegalStateException", () -> none.undo());
            none.setCall(0, 6);
            none.save(0);
            none.save(1);
            none.undo();
            none.restore(0);
            is("not undone", 6, () -> none.place(0, 1));
            none.setCall(0, 7);
            none.restore(1);
            is("in the other slot", 6, () -> none.place(0, 1));
            is("what is saved stays as it was saved", 6, () -> {
                none.setCall(0, 8);
                none.restore(1);
                return none.place(0, 1);
            });
        });
        edge(44, "- slot: 0 or 1 Returns the quantity of slots in which something is saved then.", () -> {
            ParityGame game = one();
            is("slot 1", 1, () -> game.save(1));
            is("slot 1 again", 1, () -> game.save(1));
            is("slot 0 too", 2, () -> game.save(0));
            is("slot 0 again", 2, () -> game.save(0));
            Due.feed(game, "game; odd 5");
            game.load(11);
            is("behind a load", 1, () -> game.save(0));
            is("and the other one", 2, () -> game.save(1));
        });
        edge(44, "Throws IllegalArgumentException if slot is out of range", () -> illegal(NO_SLOT, ParityGame::save));
    }

    private static void writePlaces() {
        edge(45, "Writes the places to the output buffer, replacing its content: for each place, by number, e (owner 0) or o "
                + "(owner 1), its call, an asterisk if its owner is its winner, and, if it has moves, a greater-than sign and the "
                + "place to which the plan leads; with a space between two places.", () -> {
            written("game; even 0", "e0");
            written("game; odd 9", "o9");
            written("game; even 0; move 0 0", "e0*>0");
            written("game; even 1; move 0 0", "e1>0");
            written("game; odd 9; move 0 0", "o9*>0");
            written("game; odd 8; move 0 0", "o8>0");
            written(ENDS, "e3*>1 e4*>2 o5 o1*>5 o2*>3 e7");
            written("game; even 0 1; odd 2 3; move 0 1 2; move 1 0 3; move 2 0 3; move 3 2", "e0>1 e1>0 o2*>3 o3*>2");
            StringBuilder due = new StringBuilder();
            for (int place = 0; place < 20; place++) {
                due.append("e8*>").append((place + 1) % 20).append(place < 19 ? " " : "");
            }
            written(ring("even", 20, 8), due.toString());
            written(TWENTY, "e0 e1 e2 e3 e4 e5 e6 e7 e8 e9 o0 o1 o2 o3 o4 o5 o6 o7 o8 o9");
            written("game; even" + " 9".repeat(11) + ";move 0 9;move 1 10",
                    "e9>9 e9>10 e9 e9 e9 e9 e9 e9 e9 e9 e9");
            ParityGame game = full();
            game.writePlaces();
            Due.feed(game, "game; odd 5");
            game.load(11);
            game.writePlaces();
            is("replacing a longer content", "o5", () -> output(game));
        });
        edge(45, "Returns the length of the output.", () -> {
            is("two", 2, () -> one().writePlaces());
            is("the longest", 139, () -> Due.loaded("game; even" + " 8".repeat(20) + toLast()).writePlaces());
            is("twenty without moves", 59, () -> Due.loaded(TWENTY).writePlaces());
            ParityGame game = rich();
            is("again", 29, () -> game.writePlaces());
            is("again", 29, () -> game.writePlaces());
        });
    }

    private static String toLast() {
        StringBuilder text = new StringBuilder();
        for (int place = 0; place < 20; place++) {
            text.append(";move ").append(place).append(" 19");
        }
        return text.toString();
    }

    private static void written(String text, String due) {
        is(text, due, () -> Due.written(Due.loaded(text)));
    }

    private static void outputByte() {
        edge(46, "- index: index into the output buffer Returns the byte at that index.", () -> {
            ParityGame game = rich();
            is("the first one", (int) 'e', () -> game.outputByte(0));
            is("the last one", (int) '7', () -> game.outputByte(28));
            is("an asterisk", 42, () -> game.outputByte(2));
            is("a greater-than sign", 62, () -> game.outputByte(3));
            is("a space", 32, () -> game.outputByte(5));
            ParityGame longest = Due.loaded("game; even" + " 8".repeat(20) + toLast());
            longest.writePlaces();
            is("the last of the longest", (int) '9', () -> longest.outputByte(138));
            game.setCall(0, 9);
            is("not written anew by itself", (int) '3', () -> game.outputByte(1));
        });
        edge(46, "Throws IndexOutOfBoundsException if index is negative or not less than the length of the output", () -> {
            throwing("IndexOutOfBoundsException", Edge::rich,
                    new int[] {-1, 29, 30, 138, 139, 140, Integer.MIN_VALUE, Integer.MAX_VALUE}, ParityGame::outputByte);
            throwing("IndexOutOfBoundsException", ParityGame::new, new int[] {-1, 0, 1}, ParityGame::outputByte);
            ParityGame game = full();
            int before = game.writePlaces();
            Due.feed(game, "game; odd 5");
            game.load(11);
            is("the output stays", 32, () -> game.outputByte(5));
            game.writePlaces();
            is("it was longer", true, () -> before > 2);
            is("it is shorter now", "throws.IndexOutOfBoundsException", () -> game.outputByte(2));
            is("its last byte", (int) '5', () -> game.outputByte(1));
        });
    }
}

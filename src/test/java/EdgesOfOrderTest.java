/** "If several exceptions apply, the one that is named first is thrown": each method that has several. */
public final class EdgesOfOrderTest {
    private static final int NO_USER = 6;
    private static final int NO_NOTE = 99;

    static void list(Sentences of) {
        of.add("Terms: which of user's exceptions comes first", EdgesOfOrderTest::ofUser);
        of.add("Terms: which of setRight's exceptions comes first", EdgesOfOrderTest::ofSetRight);
        of.add("Terms: which of insert's exceptions comes first", EdgesOfOrderTest::ofInsert);
        of.add("Terms: which of delete's exceptions comes first", EdgesOfOrderTest::ofDelete);
        of.add("Terms: which of note's exceptions comes first", EdgesOfOrderTest::ofNote);
        of.add("Terms: which of reply's exceptions comes first", EdgesOfOrderTest::ofReply);
        of.add("Terms: which of settle's exceptions comes first", EdgesOfOrderTest::ofSettle);
        of.add("Terms: which of remove's exceptions comes first", EdgesOfOrderTest::ofRemove);
        of.add("Terms: which of propose's exceptions comes first", EdgesOfOrderTest::ofPropose);
        of.add("Terms: which of take's exceptions comes first", EdgesOfOrderTest::ofTake);
        of.add("Terms: which of ofNote's exceptions comes first", EdgesOfOrderTest::ofOfNote);
        of.add("Terms: which of exported's exceptions comes first", EdgesOfOrderTest::ofExported);
        of.add("Terms: which of lostBy's exceptions comes first", EdgesOfOrderTest::ofLostBy);
        of.add("Terms: which of wouldSee's exceptions comes first", EdgesOfOrderTest::ofWouldSee);
    }

    public static void main(String[] args) {
        Sentences of = new Sentences();
        list(of);
        of.finish();
    }

    /** Throws what is missing ahead of what is unfit, and that ahead of what is denied. */
    private static void first(Check check, Marginalia x, boolean isMissing, boolean isUnfit, boolean isDenied,
            Check.Call call) {
        String what = (isMissing ? "missing " : "") + (isUnfit ? "unfit " : "") + (isDenied ? "denied " : "");
        if (isMissing) {
            check.missing(x, what, call);
        } else if (isUnfit) {
            check.unfit(x, what, call);
        } else if (isDenied) {
            check.denied(x, what, call);
        }
    }

    private static void ofUser(Check check) {
        Marginalia x = Edges.page(0);
        for (int right : new int[] {-1, 5, 4}) {
            first(check, x, false, right != 4, true, () -> x.user(right));
        }
    }

    private static void ofSetRight(Check check) {
        Marginalia x = Edges.page(0);
        for (int by : new int[] {Edges.OWNER, Edges.EDITOR, NO_USER}) {
            for (int user : new int[] {Edges.EDITOR, NO_USER}) {
                for (int right : new int[] {5, -1, 3}) {
                    first(check, x, by == NO_USER || user == NO_USER, right != 3, by == Edges.EDITOR,
                        () -> x.setRight(by, user, right));
                }
            }
        }
    }

    private static void ofInsert(Check check) {
        insertsInto(check, Edges.page(5), 6, false);
        insertsInto(check, Edges.page(200), 201, true);
        insertsInto(check, Edges.edited(60), 86, true);
    }

    private static void insertsInto(Check check, Marginalia x, int noPlace, boolean isFull) {
        for (int user : new int[] {Edges.OWNER, Edges.NOTER, NO_USER}) {
            for (int place : new int[] {0, noPlace}) {
                for (int many : new int[] {1, 41}) {
                    for (int sign : new int[] {0, 26}) {
                        first(check, x, user == NO_USER || place != 0, many != 1 || sign != 0,
                            user == Edges.NOTER || isFull, () -> x.insert(user, place, many, sign));
                    }
                }
            }
        }
    }

    private static void ofDelete(Check check) {
        deletesFrom(check, Edges.page(5), 5, false);
        deletesFrom(check, Edges.edited(60), 85, true);
        Marginalia none = Edges.page(0);
        first(check, none, true, true, true, () -> none.delete(Edges.NOTER, 0, 0));
    }

    private static void deletesFrom(Check check, Marginalia x, int noPlace, boolean isFull) {
        for (int user : new int[] {Edges.OWNER, Edges.NOTER, NO_USER}) {
            for (int place : new int[] {0, noPlace}) {
                for (int many : new int[] {1, 0, 99}) {
                    first(check, x, user == NO_USER || place != 0, many != 1, user == Edges.NOTER || isFull,
                        () -> x.delete(user, place, many));
                }
            }
        }
    }

    private static void ofNote(Check check) {
        notesOn(check, Edges.page(26), false);
        notesOn(check, Edges.heads(60), true);
    }

    private static void notesOn(Check check, Marginalia x, boolean isFull) {
        int[][] numbers = {{0, 1, 2, 0}, {-1, 1, 2, 0}, {1, 1, 2, 0}, {0, 27, 2, 0}, {0, 1, 3, 0}, {0, 1, 2, 1000}};
        for (int user : new int[] {Edges.OWNER, Edges.READER, NO_USER}) {
            for (int[] one : numbers) {
                first(check, x, user == NO_USER, one != numbers[0], user == Edges.READER || isFull,
                    () -> x.note(user, one[0], one[1], one[2], one[3]));
            }
        }
    }

    /** Heads 0 of view 2, 1 of view 0, 2 that is gone, 3 that is empty; 4 replies to 3, 5 to 0. */
    private static Marginalia page() {
        Marginalia x = Edges.page(26);
        x.note(Edges.OWNER, 3, 6, 2, 0);
        x.note(Edges.OWNER, 3, 6, 0, 0);
        x.note(Edges.OWNER, 3, 6, 2, 0);
        x.note(Edges.OWNER, 3, 6, 2, 0);
        x.reply(Edges.OWNER, 3, 0);
        x.reply(Edges.OWNER, 0, 0);
        x.remove(Edges.OWNER, 2);
        x.remove(Edges.OWNER, 3);
        return x;
    }

    private static void ofReply(Check check) {
        Marginalia x = page();
        for (int user : new int[] {Edges.OWNER, Edges.EDITOR, Edges.READER, NO_USER}) {
            for (int note : new int[] {0, 1, 2, 3, NO_NOTE}) {
                for (int content : new int[] {0, 1000}) {
                    boolean isDenied = user == Edges.READER || note == 3 || user == Edges.EDITOR && note == 1;
                    if (content != 0 || isDenied || note == 2 || note == NO_NOTE || user == NO_USER) {
                        first(check, x, user == NO_USER || note == 2 || note == NO_NOTE, content != 0, isDenied,
                            () -> x.reply(user, note, content));
                    }
                }
            }
        }
        Marginalia full = Edges.heads(60);
        first(check, full, true, true, true, () -> full.reply(Edges.OWNER, 60, 1000));
        first(check, full, true, false, true, () -> full.reply(Edges.OWNER, 60, 0));
        first(check, full, false, true, true, () -> full.reply(Edges.OWNER, 0, 1000));
    }

    private static void ofSettle(Check check) {
        Marginalia x = page();
        for (int user : new int[] {Edges.NOTER, Edges.NOBODY, NO_USER}) {
            for (int note : new int[] {0, 1, 2, 3, 4, NO_NOTE}) {
                first(check, x, user == NO_USER || note == 2 || note == NO_NOTE, false, true,
                    () -> x.settle(user, note, true));
            }
        }
    }

    private static void ofRemove(Check check) {
        Marginalia x = page();
        for (int user : new int[] {Edges.EDITOR, Edges.NOBODY, NO_USER}) {
            for (int note : new int[] {0, 1, 2, 3, 4, NO_NOTE}) {
                first(check, x, user == NO_USER || note == 2 || note == NO_NOTE, false, true,
                    () -> x.remove(user, note));
            }
        }
    }

    private static void ofPropose(Check check) {
        Marginalia x = page();
        int[][] numbers = {{1, 0}, {-1, 0}, {41, 0}, {1, -1}, {1, 26}, {41, 26}};
        for (int user : new int[] {Edges.EDITOR, Edges.READER, NO_USER}) {
            for (int note : new int[] {0, 1, 2, 3, 4, NO_NOTE}) {
                for (int[] one : numbers) {
                    first(check, x, user == NO_USER || note == 2 || note == NO_NOTE, note == 4 || one != numbers[0],
                        user == Edges.READER || note == 1 || note == 3, () -> x.propose(user, note, one[0], one[1]));
                }
            }
        }
    }

    private static void ofTake(Check check) {
        Marginalia x = page();
        for (int user : new int[] {Edges.EDITOR, Edges.READER, NO_USER}) {
            for (int note : new int[] {0, 1, 2, 3, 4, 5, NO_NOTE}) {
                first(check, x, user == NO_USER || note == 2 || note == NO_NOTE, note == 4 || note == 5, true,
                    () -> x.take(user, note));
            }
        }
        Marginalia last = Edges.edited(60);
        last.note(Edges.OWNER, 3, 6, 2, 0);
        last.reply(Edges.OWNER, 0, 0);
        last.propose(Edges.OWNER, 0, 40, 0);
        first(check, last, true, false, true, () -> last.take(Edges.OWNER, 2));
        first(check, last, false, true, true, () -> last.take(Edges.OWNER, 1));
        first(check, last, false, false, true, () -> last.take(Edges.OWNER, 0));
    }

    private static void ofOfNote(Check check) {
        Marginalia x = page();
        for (int note : new int[] {0, 2, 3, NO_NOTE, -1}) {
            for (int what : new int[] {11, -1}) {
                first(check, x, note != 0 && note != 3, true, false, () -> x.ofNote(note, what));
            }
        }
    }

    private static void ofExported(Check check) {
        Marginalia x = page();
        first(check, x, true, true, false, () -> x.exported(0, 4));
        x.export(Edges.OWNER, true);
        for (int place : new int[] {0, 4, 5, -1}) {
            for (int what : new int[] {4, -1}) {
                first(check, x, place != 0 && place != 4, true, false, () -> x.exported(place, what));
            }
        }
    }

    private static void ofLostBy(Check check) {
        Marginalia x = Edges.page(26);
        for (int place : new int[] {0, 25, 26, -1}) {
            for (int many : new int[] {0, -1, 27}) {
                first(check, x, place == 26 || place == -1, true, false, () -> x.lostBy(place, many));
            }
        }
    }

    private static void ofWouldSee(Check check) {
        Marginalia x = page();
        for (int user : new int[] {0, NO_USER, -1}) {
            for (int right : new int[] {5, -1}) {
                first(check, x, user != 0, true, false, () -> x.wouldSee(user, right));
            }
        }
    }
}

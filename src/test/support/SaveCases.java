/** The boundary cases of promises 36 and 37: what is saved, and when it can be restored. */
final class SaveCases {
    private SaveCases() {
    }

    static void run() {
        save();
        restore();
    }

    private static void spoil(LanguageAtoms x) {
        for (int register = 0; register < 3; register++) {
            x.reset(register, 5);
            x.randomize(register, register + 9);
        }
        Bench.setWord(x, "cccccccccccc");
    }

    private static void save() {
        Bench.promise(36);
        Bench.test("Saves all registers and the current word, in place of what was saved before.", () -> {
            LanguageAtoms x = new LanguageAtoms();
            x.save();
            spoil(x);
            x.restore();
            Bench.due("a new object's", Bench.all(x), "000 | 000 | 000 | ");
            spoil(x);
            String spoilt = Bench.all(x);
            x.save();
            Bench.due("saving changes nothing", Bench.all(x), spoilt);
            x.reset(0, 1);
            x.reset(1, 6);
            x.makeWitness(2, 3);
            x.clearWord();
            x.restore();
            Bench.due("the later ones, with a full word", Bench.all(x), spoilt);
        });
        Bench.test("Saves all registers and the current word", () -> {
            LanguageAtoms x = Bench.with(Bench.WITNESSES[5], Bench.WITNESSES[5], Bench.WITNESSES[5]);
            x.save();
            x.setTarget(0, 5, 2, 5);
            x.setFinal(1, 5, false);
            x.randomize(2, 1);
            x.minimize(2);
            x.appendLetter(1);
            x.restore();
            Bench.due("what is saved is a copy", Bench.all(x), Bench.WITNESSES[5] + " | " + Bench.WITNESSES[5] + " | "
                + Bench.WITNESSES[5] + " | ");
        });
    }

    private static void restore() {
        Bench.promise(37);
        Bench.test("Restores the registers and the current word as they were saved last.", () -> {
            LanguageAtoms x = Bench.sample();
            x.restore();
            Bench.due("the sample's", Bench.all(x), Bench.WITHOUT_A + " | " + Bench.ONLY_A + " | 000 | cc");
            LanguageAtoms y = Bench.with(Bench.WITHOUT_A);
            y.save();
            y.keepShares(0, 0, 2, false);
            y.restore();
            Bench.due("a row that was made since stays", y.remainder(0, 2, 0), 4.0 / 9.0);
            Bench.due("a missing row stays so", Bench.answer(y, z -> z.remainder(1, 0, 0)), Bench.STATE);
            y.keepShares(0, 0, 1, true);
            y.restore();
            Bench.due("a row that was changed since stays", y.remainder(0, 1, 0), (double) (float) (2.0 / 3.0));
            Bench.due("its length too", Bench.answer(y, z -> z.remainder(0, 2, 0)), Bench.INDEX);
        });
        Bench.test("They stay saved.", () -> {
            LanguageAtoms x = Bench.sample();
            for (int i = 0; i < 4; i++) {
                x.restore();
                Bench.due("restored", Bench.all(x), Bench.WITHOUT_A + " | " + Bench.ONLY_A + " | 000 | cc");
                x.setTarget(0, 1, 2, 0);
                x.setFinal(1, 0, true);
                x.appendLetter(0);
            }
            x.restore();
            x.restore();
            Bench.due("twice", Bench.all(x), Bench.WITHOUT_A + " | " + Bench.ONLY_A + " | 000 | cc");
        });
        Bench.test("Throws `IllegalStateException` if nothing was saved", () -> {
            Bench.refused("a new object", Bench.STATE, LanguageAtoms::new, Bench.act(LanguageAtoms::restore));
            Bench.refused("a changed one", Bench.STATE, () -> {
                LanguageAtoms x = Bench.with(Bench.WITNESSES[5], Bench.ONLY_A, Bench.EVERY);
                x.keepShares(1, 2, 20, true);
                return Bench.setWord(x, "abcabcabcabc");
            }, Bench.act(LanguageAtoms::restore));
            LanguageAtoms x = new LanguageAtoms();
            Bench.answer(x, Bench.act(LanguageAtoms::restore));
            Bench.due("again", Bench.answer(x, Bench.act(LanguageAtoms::restore)), Bench.STATE);
            x.save();
            Bench.due("saved now", Bench.answer(x, Bench.act(LanguageAtoms::restore)), "nothing");
            LanguageAtoms other = new LanguageAtoms();
            Bench.due("by another object", Bench.answer(other, Bench.act(LanguageAtoms::restore)), Bench.STATE);
        });
    }
}

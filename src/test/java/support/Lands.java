/** Objects that stand at the beginning of many tests. */
final class Lands {
    private Lands() {
    }

    /** Forts, told as men, general, men, general, .. */
    static OpenGates of(int... forts) {
        OpenGates x = new OpenGates();
        for (int i = 0; i < forts.length; i += 2) {
            x.fort(forts[i], forts[i + 1]);
        }
        return x;
    }

    static OpenGates under(String law, int... forts) {
        OpenGates x = of(forts);
        Check.same("law " + law, Texts.law(x, law), 0);
        Check.same("force", x.force(0), OpenGates.NONE);
        return x;
    }

    /** A fort whose belief is 0, so that no army turns. */
    static OpenGates unbelieved(int... forts) {
        OpenGates x = of(forts);
        x.terms(1, 0);
        return x;
    }

    /** The first fort is taken. */
    static OpenGates taken(int... forts) {
        OpenGates x = unbelieved(forts);
        Check.same("march", x.march(99, 0), 2);
        return x;
    }
}

/** A call, with the words that tell it. */
record Ask(String name, Of of) {
    interface Of {
        Object of(Glyphmill mill);
    }

    Object put(Glyphmill mill) {
        return of.of(mill);
    }

    @Override
    public String toString() {
        return name;
    }
}

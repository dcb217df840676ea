/** One call of the face by its name, so that a test can list calls and make them on several objects. */
record Call(String name, long... args) {
    /** Stands for the exception that the document names; no call answers this number. */
    static final long THROWS = Long.MIN_VALUE;

    long on(SpectrumHeads x) {
        return switch (name) {
            case "white" -> whiteOn(x);
            case "dark" -> bit(x.dark(arg(0), arg(1)));
            case "value" -> bit(x.value(arg(0), arg(1)));
            case "reference" -> bit(x.reference(arg(0), arg(1), args[2]));
            case "teach" -> x.teach(arg(0));
            case "read" -> x.read();
            case "sum" -> x.sum(arg(0));
            case "bound" -> bit(x.bound(args[0]));
            case "worth" -> bit(x.worth(arg(0), args[1]));
            case "leftOut" -> x.leftOut(arg(0));
            case "wrong" -> x.wrong(arg(0), arg(1));
            case "correct" -> x.correct(arg(0), arg(1));
            case "pixel" -> bit(x.pixel(arg(0), arg(1)));
            case "piece" -> x.piece(arg(0), arg(1));
            case "pieceKind" -> x.pieceKind(arg(0));
            case "neighbours" -> x.neighbours(arg(0));
            case "pack" -> x.pack(arg(0));
            case "feed" -> bit(x.feed(arg(0)));
            case "open" -> x.open();
            default -> throw new IllegalArgumentException("the face has no " + name);
        };
    }

    /** Only the very class that the document names counts, none below it. */
    private long whiteOn(SpectrumHeads x) {
        try {
            return bit(x.white(arg(0), arg(1)));
        } catch (ArrayIndexOutOfBoundsException e) {
            if (e.getClass() != ArrayIndexOutOfBoundsException.class) {
                throw e;
            }
            return THROWS;
        }
    }

    private int arg(int i) {
        return Math.toIntExact(args[i]);
    }

    private static long bit(boolean b) {
        return b ? 1L : 0L;
    }

    @Override
    public String toString() {
        StringBuilder text = new StringBuilder(name).append('(');
        for (int i = 0; i < args.length; i++) {
            text.append(i == 0 ? "" : ", ").append(args[i]);
        }
        return text.append(')').toString();
    }
}
